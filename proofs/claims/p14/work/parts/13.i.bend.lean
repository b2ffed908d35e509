/-! ##### 13.i.bend ##### -/
section
/-! ===== runs over invariants: what a run comes to ===== -/
noncomputable def bCnt : (Option Value ⊕ Nat) → Nat × Nat
  | .inl _ => (0, 0)
  | .inr _ => (1, 6)
/-- a run ends, and what comes of it is as Q says -/
noncomputable def bWp (G : Nat → Option amM) (d : Nat) (M : amM) (cs : amP) (pc : Nat) (cl : amL) (st : List Value) (hp : amH) (Q : (Option Value ⊕ Nat) → amH → Prop) : Prop :=
  ∃ f y hp1, amRun G none f d M cs pc cl st hp 0 0 = some (y, hp1, (bCnt y).1, (bCnt y).2) ∧ Q y hp1
section BWP
variable {G : Nat → Option amM} {d : Nat} {M : amM} {cs : amP} {q : Nat × amIn1} {cl : amL} {st : List Value} {hp : amH} {Q : (Option Value ⊕ Nat) → amH → Prop}
theorem bWp_step {r : amR} (h : amDo G M none q.2.1 q.2.2.1 q.2.2.2 q.1 cl st hp = some (.inl (r, 0, 0))) (hw : bWp G d M (amNext M cs r.1) r.1 r.2.1 r.2.2.1 r.2.2.2 Q) : bWp G d M (q :: cs) q.1 cl st hp Q := by
  obtain ⟨f, y, hp1, h1, h2⟩ := hw
  refine ⟨f + 1, y, hp1, ?_, h2⟩
  simp only [amRun, if_true, h, Nat.add_zero]
  exact h1
theorem bWp_ret {v : Option Value} (h : amDo G M none q.2.1 q.2.2.1 q.2.2.2 q.1 cl st hp = some (.inr (.inl v))) (hQ : Q (.inl v) hp) : bWp G d M (q :: cs) q.1 cl st hp Q :=
  ⟨1, .inl v, hp, by simp only [amRun, if_true, h]; rfl, hQ⟩
theorem bWp_thr {E : Nat} (h : amDo G M none q.2.1 q.2.2.1 q.2.2.2 q.1 cl st hp = some (.inr (.inr (.inl E)))) (hQ : Q (.inr E) hp) : bWp G d M (q :: cs) q.1 cl st hp Q :=
  ⟨1, .inr E, hp, by simp only [amRun, if_true, h]; rfl, hQ⟩
theorem bWp_call {k : Nat} {av rest : List Value} {N : amM} (h : amDo G M none q.2.1 q.2.2.1 q.2.2.2 q.1 cl st hp = some (.inr (.inr (.inr (k, av, rest))))) (hN : G k = some N)
    (hw : bWp G d N N.1 0 (lv_args 0 av) [] hp (fun y hp1 => match y with
      | .inl v => bWp G (d + 1) M (amNext M cs (q.1 + 3)) (q.1 + 3) cl (v.toList ++ rest) hp1 Q
      | .inr E => amMay q.2.1 q.2.2.2 = true ∧ M.2.2.2.2.2.1 = [] ∧ Q (.inr E) hp1)) : bWp G (d + 1) M (q :: cs) q.1 cl st hp Q := by
  obtain ⟨f, y, hp1, h1, h2⟩ := hw
  cases y with
  | inl v =>
    obtain ⟨f2, y2, hp2, g1, g2⟩ := h2
    refine ⟨max f f2 + 1, y2, hp2, ?_, g2⟩
    have h1 := amRun_more _ _ _ _ _ _ _ _ _ _ _ _ h1 (max f f2) d (Nat.le_max_left _ _) (Nat.le_refl _)
    have g1 := amRun_more _ _ _ _ _ _ _ _ _ _ _ _ g1 (max f f2) (d + 1) (Nat.le_max_right _ _) (Nat.le_refl _)
    simp only [amRun, if_true, h, hN, h1]
    exact g1
  | inr E =>
    obtain ⟨g1, g2, g3⟩ := h2
    refine ⟨f + 1, .inr E, hp1, ?_, g3⟩
    simp only [amRun, if_true, h, hN, h1, g1, g2]
    rfl
end BWP
theorem bWp_mono {G : Nat → Option amM} {d : Nat} {M : amM} {cs : amP} {pc : Nat} {cl : amL} {st : List Value} {hp : amH} {Q R : (Option Value ⊕ Nat) → amH → Prop} (h : bWp G d M cs pc cl st hp Q) (hQ : ∀ y hp1, Q y hp1 → R y hp1) : bWp G d M cs pc cl st hp R := by
  obtain ⟨f, y, hp1, h1, h2⟩ := h
  exact ⟨f, y, hp1, h1, hQ _ _ h2⟩
theorem bWp_deep {G : Nat → Option amM} {d e : Nat} {M : amM} {cs : amP} {pc : Nat} {cl : amL} {st : List Value} {hp : amH} {Q : (Option Value ⊕ Nat) → amH → Prop} (h : bWp G d M cs pc cl st hp Q) (hd : d ≤ e) : bWp G e M cs pc cl st hp Q := by
  obtain ⟨f, y, hp1, h1, h2⟩ := h
  exact ⟨f, y, hp1, amRun_more _ _ _ _ _ _ _ _ _ _ _ _ h1 f e (Nat.le_refl _) hd, h2⟩
/-! what is said of a method: arguments, facts before, depth, what it may write, what it may throw, what may come of it -/
abbrev bFa : Type := Nat × Nat × Nat × Nat
abbrev bSp : Type := List bY × List bFa × Nat × List (Nat × Nat) × List Nat × List (Option bY × List bFa)
noncomputable def bFacts (hp : amH) (fs : List bFa) : Prop := ∀ f ∈ fs, ∃ x, bFld hp f.1 f.2.1 = some (.int x) ∧ f.2.2.1 ≤ aOff x ∧ aOff x ≤ f.2.2.2
noncomputable def bArgs (n : Nat) : List bY → List Value → Prop
  | [], [] => True
  | y :: ys, w :: ws => bYr n y w ∧ bArgs n ys ws
  | _, _ => False
noncomputable def bRo (n : Nat) : Option bY → Option Value → Prop
  | none, none => True
  | some y, some w => bYr n y w
  | _, _ => False
noncomputable def bOut (n : Nat) (s : bSp) (y : Option Value ⊕ Nat) (hp : amH) : Prop := match y with
  | .inl v => ∃ c ∈ s.2.2.2.2.2, bRo n c.1 v ∧ bFacts hp c.2
  | .inr E => E ∈ s.2.2.2.2.1
noncomputable def bSem (G : Nat → Option amM) (P : amH → Prop) (n : Nat) (T : Nat → Option bD) (k : Nat) (s : bSp) : Prop :=
  ∃ N, G k = some N ∧ ∀ (av : List Value) (hp : amH), bHk n T hp → P hp → bArgs n s.1 av → bFacts hp s.2.1 →
    bWp G s.2.2.1 N N.1 0 (lv_args 0 av) [] hp (fun y hp1 => bHk n T hp1 ∧ P hp1 ∧ bFr s.2.2.2.1 hp hp1 ∧ bOut n s y hp1)
/-! checks -/
noncomputable def bDfl (T : Nat → Option bD) (c k : Nat) : Option bY := match T c with
  | some D => (match Nat.ble 32 D.1 with
    | true => none
    | false => (match Nat.ble (Nat.add k 1) D.2.1 with
      | true => lAt D.2.2 k
      | false => none))
  | none => none
noncomputable def bFaLe (T : Nat → Option bD) (n : Nat) (S : bS) (f : bFa) : Bool := match bFget S.2.1 f.1 f.2.1 with
  | some v => bLe S.1 v (.inl f.2.2)
  | none => (match bDfl T f.1 f.2.1 with
    | some y => (match Nat.ble (Nat.add f.1 1) n with
      | true => bYle y (.inl f.2.2)
      | false => false)
    | none => false)
noncomputable def bArLe (E : bE) : List bV → List bY → Bool
  | [], [] => true
  | v :: vs, y :: ys => (match bLe E v y with
    | true => bArLe E vs ys
    | false => false)
  | _, _ => false
section BCH
variable {n : Nat} {T : Nat → Option bD} {ρ : List Nat}
theorem bFaLe_s {S : bS} {hp : amH} (hS : bRS n ρ S hp) (hH : bHk n T hp) {f : bFa} (h : bFaLe T n S f = true) : ∃ x, bFld hp f.1 f.2.1 = some (.int x) ∧ f.2.2.1 ≤ aOff x ∧ aOff x ≤ f.2.2.2 := by
  unfold bFaLe at h
  split at h
  · next v e =>
    obtain ⟨w, h1, h2⟩ := hS.2.1 _ (bFget_s e)
    obtain ⟨x, rfl, h3⟩ := bLe_s hS.1 h h2
    exact ⟨x, h1, h3⟩
  · split at h
    · next y e =>
      split at h
      · next e1 =>
        unfold bDfl at e
        split at e
        · next D eD =>
          split at e
          · cases e
          · next e2 =>
            split at e
            · next e3 =>
              obtain ⟨d, g1, g2⟩ := bHk_at hH (a_lt1 e1) eD
              have hlt : f.2.1 < d.2.length := by rw [g2.2.1]; exact a_lt1 e3
              obtain ⟨y', g3, g4⟩ := g2.2.2 f.2.1 _ (List.getElem?_eq_getElem hlt)
              unfold bDy at g3
              rw [e2] at g3
              dsimp only at g3
              rw [e] at g3
              cases g3
              obtain ⟨x, hx, h3⟩ := bYle_s h g4
              refine ⟨x, ?_, h3⟩
              unfold bFld
              rw [g1]
              dsimp only
              rw [List.getElem?_eq_getElem hlt, hx]
            · cases e
        · cases e
      · cases h
    · cases h
theorem bFaAll_s {S : bS} {hp : amH} (hS : bRS n ρ S hp) (hH : bHk n T hp) {fs : List bFa} (h : lAll (bFaLe T n S) fs = true) : bFacts hp fs := fun f hf => bFaLe_s hS hH (lAll_m h f hf)
theorem bArLe_s {E : bE} (hE : bRE ρ E) : ∀ {vs : List bV} {ys : List bY} {ws : List Value}, bArLe E vs ys = true → bRs n ρ vs ws → bArgs n ys ws
  | [], [], [], _, _ => trivial
  | v :: vs, y :: ys, w :: ws, h, hs => by
    unfold bArLe at h
    split at h
    · next e => exact ⟨bLe_s hE e hs.1, bArLe_s hE h hs.2⟩
    · cases h
/-- new facts -/
noncomputable def bAddF (E : bE) (F : bF) : List bFa → bE × bF
  | [] => (E, F)
  | f :: r => (match bNew E f.2.2 with
    | (v, E') => bAddF E' ((f.1, f.2.1, v) :: F) r)
theorem bAddF_s : ∀ {fs : List bFa} {ρ : List Nat} {E : bE} {F : bF} {hp : amH}, bRE ρ E → (∀ f ∈ F, ∃ w, bFld hp f.1 f.2.1 = some w ∧ bR n ρ f.2.2 w) → bFacts hp fs → ∃ ρ', ρ <+: ρ' ∧ bRE ρ' (bAddF E F fs).1 ∧ ∀ f ∈ (bAddF E F fs).2, ∃ w, bFld hp f.1 f.2.1 = some w ∧ bR n ρ' f.2.2 w
  | [], ρ, E, F, hp, hE, hF, _ => ⟨ρ, List.prefix_refl _, hE, hF⟩
  | f :: r, ρ, E, F, hp, hE, hF, h => by
    obtain ⟨x, h1, h2⟩ := h f List.mem_cons_self
    obtain ⟨ρ', g1, g2, g3⟩ := bNew_s (n := n) hE (q := f.2.2) (bIn_off.mpr h2)
    unfold bAddF
    split
    next v E' e =>
    rw [e] at g2 g3
    obtain ⟨ρ2, k1, k2, k3⟩ := bAddF_s (fs := r) (F := (f.1, f.2.1, v) :: F) (hp := hp) g2 (fun z hz => by
      cases hz with
      | head => exact ⟨_, h1, g3⟩
      | tail _ hz => exact (hF z hz).imp fun _ q => ⟨q.1, bR_mono g1 q.2⟩) (fun z hz => h z (List.mem_cons_of_mem _ hz))
    exact ⟨ρ2, g1.trans k1, k2, k3⟩
noncomputable def bFwo (W : List (Nat × Nat)) : bF → bF
  | [] => []
  | f :: r => (match bIn W f.1 f.2.1 with
    | true => bFwo W r
    | false => f :: bFwo W r)
theorem bFwo_s {W : List (Nat × Nat)} : ∀ {F : bF} {f : Nat × Nat × bV}, f ∈ bFwo W F → f ∈ F ∧ bIn W f.1 f.2.1 = false
  | g :: r, f, h => by
    unfold bFwo at h
    split at h
    · exact ⟨List.mem_cons_of_mem _ (bFwo_s h).1, (bFwo_s h).2⟩
    · next e =>
      cases h with
      | head => exact ⟨List.mem_cons_self, e⟩
      | tail _ h => exact ⟨List.mem_cons_of_mem _ (bFwo_s h).1, (bFwo_s h).2⟩
noncomputable def bWs (V W : List (Nat × Nat)) : Bool := match V with
  | [] => true
  | p :: r => (match bIn W p.1 p.2 with
    | true => bWs r W
    | false => false)
theorem bWs_s : ∀ {V W : List (Nat × Nat)}, bWs V W = true → ∀ {c k : Nat}, bIn V c k = true → bIn W c k = true
  | p :: r, W, h, c, k, hc => by
    unfold bWs at h
    split at h
    · next e =>
      unfold bIn at hc
      split at hc
      · next e1 =>
        have e1 := Nat.eq_of_beq_eq_true e1
        split at hc
        · next e2 =>
          rw [← e1, ← Nat.eq_of_beq_eq_true e2]
          exact e
        · split at hc
          · next e3 =>
            rw [e1, Nat.eq_of_beq_eq_true e3] at e
            exact bIn_all e k
          · exact bWs_s h hc
      · exact bWs_s h hc
    · cases h
theorem bFr_mono {V W : List (Nat × Nat)} (h : bWs V W = true) {a b : amH} (hf : bFr V a b) : bFr W a b := by
  intro c k e
  refine hf c k ?_
  cases z : bIn V c k with
  | false => rfl
  | true => rw [bWs_s h z] at e; cases e
end BCH
end
/-! ##### 13.j.brun ##### -/
section
/-! ===== runs over invariants: whole runs ===== -/
abbrev bRt2 : Type := bE → List bV → Option (Option bV)
abbrev bAc : Type := bA ⊕ bRt2 ⊕ Nat ⊕ Nat
noncomputable def bRetI (ret : Option FieldType) : bRt2 := fun E st => match st with
  | [v] => (match ret with
    | some ty => (match bIsI v with
      | true => (match bFits ty E v with
        | true => some (some v)
        | false => none)
      | false => none)
    | none => none)
  | _ => none
noncomputable def bRetT (ret : Option FieldType) (ty : FieldType) (t : Nat) : bRt2 := fun _ st => match st with
  | [v] => (match bIs t v with
    | true => if ret = some ty then some (some v) else none
    | false => none)
  | _ => none
noncomputable def bRetN (ret : Option FieldType) : bRt2 := fun _ st => match st with
  | [] => (match ret with
    | none => some none
    | some _ => none)
  | _ => none
noncomputable def bRv (n : Nat) (ρ : List Nat) : Option bV → Option Value → Prop
  | none, none => True
  | some v, some w => bR n ρ v w
  | _, _ => False
/-- the length of a word, and its letters -/
noncomputable def bLenW (pc : Nat) : bA := fun ls st S => match st with
  | .inr (.inr (.inl t)) :: r => (match amWd t with
    | some l => (match Nat.ble (bCs r) 8 with
      | true => (match Nat.ble l.length 100000 with
        | true => some [(pc, ls, .inl (Nat.add l.length 2147483648) :: r, S)]
        | false => none)
      | false => none)
    | none => none)
  | _ => none
noncomputable def bChrW (pc : Nat) : bA := fun ls st S => match st with
  | i :: .inr (.inr (.inl t)) :: r => (match amWd t with
    | some l => (match bIv S.1 i with
      | some q => (match bRng q l.length with
        | true => (match Nat.ble (bCs r) 8 with
          | true => (match l.all (fun b => Nat.ble 2147483648 (aOff b) && Nat.ble (aOff b) 2147483775) with
            | true => (match bNew S.1 (2147483648, 2147483775) with
              | (v, E') => some [(pc, ls, v :: r, E', S.2)])
            | false => none)
          | false => none)
        | false => none)
      | none => none)
    | none => none)
  | _ => none
noncomputable def bActI (T : Nat → Option bD) (W : List (Nat × Nat)) (M : amM) (q : Nat × amIn1) : Option bAc := match q.2.1 with
  | .new _ => if q.2.2.2 = 0 then none else (match M.2.2.2.2.2.1 with
    | [] => some (.inr (.inr (.inl q.2.2.1)))
    | _ :: _ => none)
  | .invokevirtual _ => if q.2.2.2 = 7 then some (.inl (bLenW (q.1 + 3))) else if q.2.2.2 = 8 then some (.inl (bChrW (q.1 + 3))) else some (.inr (.inr (.inr 0)))
  | .invokestatic _ => if q.2.2.2 = 6 then some (.inl (bCpyA T W (q.1 + 3))) else some (.inr (.inr (.inr 1)))
  | .ireturn => some (.inr (.inl (bRetI M.2.2.2.2.1)))
  | .lreturn => some (.inr (.inl (bRetT M.2.2.2.2.1 .long 1)))
  | .freturn => some (.inr (.inl (bRetT M.2.2.2.2.1 .float 3)))
  | .dreturn => some (.inr (.inl (bRetT M.2.2.2.2.1 .double 2)))
  | .return_ => some (.inr (.inl (bRetN M.2.2.2.2.1)))
  | i => (match aSp i with
    | true => none
    | false => (match bTr T W M.2.1 i q.2.2.1 q.2.2.2 q.1 with
      | some act => some (.inl act)
      | none => none))
section BAC
variable {n : Nat} {T : Nat → Option bD} {W : List (Nat × Nat)} {G : Nat → Option amM} {M : amM} {q : Nat × amIn1}
theorem bLenW_ok {pc : Nat} {cf : amL → List Value → amH → Option amR} (hcf : ∀ ls st hp r, amLenS pc ls hp st = some (.inl (r, 0, 0)) → cf ls st hp = some r) : bOk n T W (bLenW pc) cf := by
  intro ls st S L ρ cl cs hp e hr
  unfold bLenW at e
  split at e
  · next t r =>
    obtain ⟨w, ws, rfl, hv, hs⟩ := bRs_cons hr.2.1
    split at e
    · next l el =>
      split at e
      · next e8 =>
        split at e
        · next ek =>
          cases e
          have hK : amK ≤ t := by
            obtain ⟨k, rfl, -⟩ := amWd_s el
            exact Nat.le_add_right _ _
          have hw : w = .ref t := by
            rcases hv with ⟨h, -⟩ | ⟨h, -⟩ | ⟨h, -⟩ | ⟨h, -⟩ | ⟨-, h⟩
            · unfold amK at hK; omega
            · unfold amK at hK; omega
            · unfold amK at hK; omega
            · unfold amK at hK; omega
            · exact h
          subst hw
          have h8 : (ws.map fun v => v.category).sum ≤ 8 := by rw [bRs_cat hs]; exact a_le e8
          have hx : aOff (Int32.ofNat l.length) = Nat.add l.length 2147483648 := by
            obtain ⟨x, ex, x1, x2⟩ := a_ofNat (n := l.length) (a_le ek)
            cases ex
            have := bIn_off.mp ⟨x1, x2⟩
            exact Nat.le_antisymm this.2 this.1
          exact ⟨_, hcf _ _ _ (pc, cl, .int (Int32.ofNat l.length) :: ws, hp) (by simp only [amLenS, el, h8, if_true]), bOne rfl (List.prefix_refl _) hr.1 ⟨⟨_, rfl, hx⟩, hs⟩ hr.2.2.1 hr.2.2.2 (bFr.refl _ _)⟩
        · cases e
      · cases e
    · cases e
  · cases e
theorem bChrW_ok {pc : Nat} {cf : amL → List Value → amH → Option amR} (hcf : ∀ ls st hp r, amChrS pc ls hp st = some (.inl (r, 0, 0)) → cf ls st hp = some r) : bOk n T W (bChrW pc) cf := by
  intro ls st S L ρ cl cs hp e hr
  unfold bChrW at e
  split at e
  · next i t r =>
    obtain ⟨wi, ws, rfl, hvi, hsi⟩ := bRs_cons hr.2.1
    obtain ⟨w, ws, rfl, hv, hs⟩ := bRs_cons hsi
    split at e
    · next l el =>
      split at e
      · next q eq =>
        split at e
        · next er =>
          split at e
          · next e8 =>
            split at e
            · next ea =>
              obtain ⟨x, rfl, hx⟩ := bIv_s hr.2.2.1.1 eq hvi
              have hK : amK ≤ t := by
                obtain ⟨k, rfl, -⟩ := amWd_s el
                exact Nat.le_add_right _ _
              have hw : w = .ref t := by
                rcases hv with ⟨h, -⟩ | ⟨h, -⟩ | ⟨h, -⟩ | ⟨h, -⟩ | ⟨-, h⟩
                · unfold amK at hK; omega
                · unfold amK at hK; omega
                · unfold amK at hK; omega
                · unfold amK at hK; omega
                · exact h
              subst hw
              have h8 : (ws.map fun v => v.category).sum ≤ 8 := by rw [bRs_cat hs]; exact a_le e8
              obtain ⟨e3, e4⟩ := bRng_s er
              have hx := bIn_off.mp hx
              have ax := aOff_eq x
              have hxn : (x.toNatClampNeg : Int) = x.toInt := by
                have : x.toNatClampNeg = x.toInt.toNat := rfl
                rw [this]
                omega
              have hlt : x.toNatClampNeg < l.length := by omega
              have hin : amIn x l.length = true := by
                refine decide_eq_true ?_
                rintro (z | z)
                · have := Int32.lt_iff_toInt_lt.mp z
                  have z0 : (0 : Int32).toInt = 0 := by decide
                  omega
                · omega
              have hmem : l.getD x.toNatClampNeg 0 ∈ l := by
                rw [List.getD_eq_getElem?_getD, List.getElem?_eq_getElem hlt]
                exact List.getElem_mem hlt
              have hb := List.all_eq_true.mp ea _ hmem
              rw [Bool.and_eq_true] at hb
              obtain ⟨ρ', h1, h2, h3⟩ := bNew_s (n := n) hr.2.2.1.1 (q := (2147483648, 2147483775)) (x := l.getD x.toNatClampNeg 0) (bIn_off.mpr ⟨a_le hb.1, a_le hb.2⟩)
              split at e
              next v E' ev =>
              rw [ev] at h2 h3
              cases e
              exact ⟨_, hcf _ _ _ (pc, cl, .int (l.getD x.toNatClampNeg 0) :: ws, hp) (by simp only [amChrS, el, hin, h8, and_self, if_true]), bOne rfl h1 (bRl_mono h1 hr.1) ⟨h3, bRs_mono h1 hs⟩ (bRS_ext h1 hr.2.2.1 h2) hr.2.2.2 (bFr.refl _ _)⟩
            · cases e
          · cases e
        · cases e
      · cases e
    · cases e
  · cases e
theorem bActI_k (hn : n ≤ 999999) {act : bA} (h : bActI T W M q = some (.inl act)) : bOk n T W act (fun ls st hp => amU (amDo G M none q.2.1 q.2.2.1 q.2.2.2 q.1 ls st hp)) := by
  obtain ⟨pc, i, a, b⟩ := q
  have hstep : aSp i = false → bTr T W M.2.1 i a b pc = some act → bOk n T W act (fun ls st hp => amU (amDo G M none i a b pc ls st hp)) := by
    intro h1 h2
    have h3 := bTr_s (n := n) hn (sc := none) h2
    intro ls st S L ρ cl cs hp e hr
    obtain ⟨r, g1, g2⟩ := h3 ls st S L ρ cl cs hp e hr
    refine ⟨r, ?_, g2⟩
    dsimp only at g1 ⊢
    rw [amDo_step h1, g1]
    rfl
  cases i
  case invokevirtual k =>
    simp only [bActI] at h
    split at h
    · next e =>
      cases h
      refine bLenW_ok fun ls st hp r e2 => ?_
      dsimp only at e ⊢
      simp only [amDo, e, if_true, e2]
      rfl
    · next e7 =>
      split at h
      · next e =>
        cases h
        refine bChrW_ok fun ls st hp r e2 => ?_
        dsimp only at e e7 ⊢
        simp only [amDo, if_neg e7, e, if_true, e2]
        rfl
      · cases h
  case invokestatic k =>
    simp only [bActI] at h
    split at h
    · next e =>
      cases h
      refine bCpyA_ok fun ls st hp r e2 => ?_
      dsimp only at e ⊢
      simp only [amDo, e, if_true, e2]
      rfl
    · cases h
  case new k =>
    simp only [bActI] at h
    split at h
    · cases h
    · split at h <;> cases h
  all_goals first
    | (cases h; done)
    | (simp only [bActI] at h
       split at h
       · cases h
       · next e1 =>
         split at h
         · next e2 => cases h; exact hstep e1 e2
         · cases h)
theorem bRetI_ok {ρ : List Nat} {E : bE} (hE : bRE ρ E) {ret : Option FieldType} {st : List bV} {cs : List Value} {v : Option bV} (h : bRetI ret E st = some v) (hs : bRs n ρ st cs) : ∃ w, amRetV ret .ireturn cs = some w ∧ bRv n ρ v w := by
  unfold bRetI at h
  split at h
  · next u =>
    obtain ⟨w, ws, rfl, hv, hs1⟩ := bRs_cons hs
    cases bRs_nil hs1
    split at h
    · next ty =>
      split at h
      · next ei =>
        split at h
        · next ef =>
          cases h
          obtain ⟨x, rfl⟩ := bIsI_s ei hv
          have := (bFits_s hE ef hv).1
          exact ⟨some (.int x), by simp only [amRetV, this, if_true], hv⟩
        · cases h
      · cases h
    · cases h
  · cases h
theorem bRetN_ok {ρ : List Nat} {E : bE} {ret : Option FieldType} {st : List bV} {cs : List Value} {v : Option bV} (h : bRetN ret E st = some v) (hs : bRs n ρ st cs) : ∃ w, amRetV ret .return_ cs = some w ∧ bRv n ρ v w := by
  unfold bRetN at h
  split at h
  · cases bRs_nil hs
    split at h
    · cases h; exact ⟨none, rfl, trivial⟩
    · cases h
  · cases h
theorem bRetT_s {ρ : List Nat} {E : bE} {ret : Option FieldType} {ty : FieldType} {t : Nat} {st : List bV} {cs : List Value} {v : Option bV} (h : bRetT ret ty t E st = some v) (hs : bRs n ρ st cs) : ∃ u w, v = some u ∧ cs = [w] ∧ bIs t u = true ∧ bR n ρ u w ∧ ret = some ty := by
  unfold bRetT at h
  split at h
  · next u =>
    obtain ⟨w, ws, rfl, hv, hs1⟩ := bRs_cons hs
    cases bRs_nil hs1
    split at h
    · next ei =>
      split at h
      · next er => cases h; exact ⟨u, w, rfl, rfl, ei, hv, er⟩
      · cases h
    · cases h
  · cases h
theorem bActI_r {rt : bRt2} (h : bActI T W M q = some (.inr (.inl rt))) {ρ : List Nat} {E : bE} (hE : bRE ρ E) {st : List bV} {cs : List Value} {v : Option bV} (e : rt E st = some v) (hs : bRs n ρ st cs) : ∃ w, bRv n ρ v w ∧ ∀ ls hp, amDo G M none q.2.1 q.2.2.1 q.2.2.2 q.1 ls cs hp = some (.inr (.inl w)) := by
  obtain ⟨pc, i, a, b⟩ := q
  cases i
  case invokevirtual k =>
    simp only [bActI] at h
    split at h
    · cases h
    · split at h <;> cases h
  case invokestatic k =>
    simp only [bActI] at h
    split at h <;> cases h
  case new k =>
    simp only [bActI] at h
    split at h
    · cases h
    · split at h <;> cases h
  case ireturn => cases h; obtain ⟨w, w1, w2⟩ := bRetI_ok hE e hs; exact ⟨w, w2, fun ls hp => by simp only [amDo, w1]; rfl⟩
  case lreturn =>
    cases h
    obtain ⟨u, w, rfl, rfl, e1, e2, e3⟩ := bRetT_s e hs
    obtain ⟨x, rfl⟩ := bIs_J e1 e2
    exact ⟨some (.long x), e2, fun ls hp => by simp only [amDo, e3, amRetV]; rfl⟩
  case freturn =>
    cases h
    obtain ⟨u, w, rfl, rfl, e1, e2, e3⟩ := bRetT_s e hs
    obtain ⟨x, rfl, -⟩ := bIs_F e1 e2
    exact ⟨some (.float x), e2, fun ls hp => by simp only [amDo, e3, amRetV]; rfl⟩
  case dreturn =>
    cases h
    obtain ⟨u, w, rfl, rfl, e1, e2, e3⟩ := bRetT_s e hs
    obtain ⟨x, rfl⟩ := bIs_D e1 e2
    exact ⟨some (.double x), e2, fun ls hp => by simp only [amDo, e3, amRetV]; rfl⟩
  case return_ => cases h; obtain ⟨w, w1, w2⟩ := bRetN_ok e hs; exact ⟨w, w2, fun ls hp => by simp only [amDo, w1]; rfl⟩
  all_goals first
    | (cases h; done)
    | (simp only [bActI] at h
       split at h
       · cases h
       · split at h <;> cases h)
theorem bActI_t {E : Nat} (h : bActI T W M q = some (.inr (.inr (.inl E)))) {ρ : List Nat} {st : List bV} {cs : List Value} (e : bCs st ≤ 8) (hs : bRs n ρ st cs) (ls : amL) (hp : amH) : amDo G M none q.2.1 q.2.2.1 q.2.2.2 q.1 ls cs hp = some (.inr (.inr (.inl E))) := by
  obtain ⟨pc, i, a, b⟩ := q
  cases i
  case invokevirtual k =>
    simp only [bActI] at h
    split at h
    · cases h
    · split at h <;> cases h
  case invokestatic k =>
    simp only [bActI] at h
    split at h <;> cases h
  case new k =>
    simp only [bActI] at h
    split at h
    · cases h
    · next e0 =>
      split at h
      · next e1 =>
        cases h
        simp only [amDo, if_neg e0]
        rw [if_pos ⟨by rw [bRs_cat hs]; exact e, e1⟩]
      · cases h
  all_goals first
    | (cases h; done)
    | (simp only [bActI] at h
       split at h
       · cases h
       · split at h <;> cases h)
theorem bActI_c {k : Nat} (h : bActI T W M q = some (.inr (.inr (.inr k)))) (ls : amL) (cs : List Value) (hp : amH) : amDo G M none q.2.1 q.2.2.1 q.2.2.2 q.1 ls cs hp = amCall G k q.2.2.1 ls cs hp := by
  obtain ⟨pc, i, a, b⟩ := q
  cases i
  case invokestatic k =>
    simp only [bActI] at h
    split at h
    · cases h
    · next e => cases h; simp only [amDo, if_neg e]
  case invokevirtual k =>
    simp only [bActI] at h
    split at h
    · cases h
    · next e7 =>
      split at h
      · cases h
      · next e8 => cases h; simp only [amDo, if_neg e7, if_neg e8]
  case new k =>
    simp only [bActI] at h
    split at h
    · cases h
    · split at h <;> cases h
  all_goals first
    | (cases h; done)
    | (simp only [bActI] at h
       split at h
       · cases h
       · split at h <;> cases h)
end BAC
/-! calls -/
noncomputable def bSplit : Nat → List bV → List bV → Option (List bV × List bV)
  | 0, st, acc => some (acc, st)
  | n + 1, v :: st, acc => bSplit n st (v :: acc)
  | _ + 1, [], _ => none
theorem bSplit_s : ∀ {n : Nat} {st acc av rest : List bV}, bSplit n st acc = some (av, rest) → n ≤ st.length ∧ av = (st.take n).reverse ++ acc ∧ rest = st.drop n
  | 0, st, acc, av, rest, h => by cases h; exact ⟨Nat.zero_le _, rfl, rfl⟩
  | n + 1, v :: st, acc, av, rest, h => by
    obtain ⟨h1, h2, h3⟩ := bSplit_s (n := n) (st := st) (acc := v :: acc) h
    refine ⟨by rw [List.length_cons]; omega, ?_, by rw [h3]; rfl⟩
    rw [h2, List.take_succ_cons, List.reverse_cons, List.append_assoc]
    rfl
  | _ + 1, [], _, _, _, h => by cases h
noncomputable def bRecv (T : Nat → Option bD) (k ci : Nat) : List bV → Bool
  | .inr (.inr (.inr l)) :: _ => (match k with
    | 0 => (match Nat.ble ci 31 with
      | true => lAll (fun c => match T c with
        | some D => Nat.beq D.1 ci
        | none => false) l
      | false => false)
    | _ + 1 => true)
  | _ => Nat.beq k 1
section BCL
variable {n : Nat} {T : Nat → Option bD} {ρ : List Nat}
theorem bRecv_s {k ci : Nat} {av : List bV} {cav : List Value} {hp : amH} (h : bRecv T k ci av = true) (hs : bRs n ρ av cav) (hH : bHk n T hp) : amRecv k ci hp cav = true := by
  unfold bRecv at h
  split at h
  · next l r =>
    obtain ⟨w, ws, rfl, hv, -⟩ := bRs_cons hs
    obtain ⟨i, rfl, hi, hil⟩ := hv
    split at h
    · split at h
      · next e1 =>
        have h0 := lAll_m h i hil
        split at h0
        · next D eD =>
          obtain ⟨d, g1, g2⟩ := bHk_at hH hi eD
          have h4 : d.1 = ci := by rw [g2.1]; exact Nat.eq_of_beq_eq_true h0
          have h5 : ci < 32 := by have := a_le e1; omega
          simp only [amRecv, g1, h4, h5, and_self, decide_true, if_true]
        · cases h0
      · cases h
    · next m => simp only [amRecv]; rw [if_neg (by omega)]
  · have h := Nat.eq_of_beq_eq_true h
    subst h
    unfold amRecv
    split
    · rfl
    · rfl
noncomputable def bCArgs (T : Nat → Option bD) (k : Nat) (N : amM) (st : List bV) : Option (List bV × List bV) := match bSplit N.2.2.1 st [] with
  | some q => (match Nat.ble (bCs q.1) N.2.1 with
    | true => (match bRecv T k N.2.2.2.2.2.2 q.1 with
      | true => (match Nat.ble (bCs q.2) 8 with
        | true => some q
        | false => none)
      | false => none)
    | false => none)
  | none => none
theorem bCArgs_s {G : Nat → Option amM} {k a : Nat} {N : amM} {st av rest : List bV} {ls : bL} {cl : amL} {cs : List Value} {hp : amH} (hG : G a = some N) (h : bCArgs T k N st = some (av, rest)) (hl : bRl n ρ ls cl) (hs : bRs n ρ st cs) (hH : bHk n T hp) :
    ∃ cav crest, amCall G k a cl cs hp = some (.inr (.inr (.inr (a, cav, crest)))) ∧ bRs n ρ av cav ∧ bRs n ρ rest crest := by
  unfold bCArgs at h
  split at h
  · next q eq =>
    split at h
    · next e1 =>
      split at h
      · next e4 =>
        split at h
        · next e5 =>
          cases h
          obtain ⟨h1, h2, h3⟩ := bSplit_s eq
          rw [List.append_nil] at h2
          have r1 : bRs n ρ av (cs.take N.2.2.1).reverse := by rw [h2]; exact bRs_rev (bRs_take hs)
          have r2 : bRs n ρ rest (cs.drop N.2.2.1) := by rw [h3]; exact bRs_drop hs
          have c1 : ((cs.take N.2.2.1).map fun v => v.category).sum = bCs av := by rw [bRs_cat (bRs_take (k := N.2.2.1) hs), h2, bCs_rev]
          have c2 : ((cs.drop N.2.2.1).map fun v => v.category).sum = bCs rest := bRs_cat r2
          refine ⟨_, _, ?_, r1, r2⟩
          unfold amCall
          rw [hG]
          dsimp only at e1 e4 e5 ⊢
          rw [if_pos ⟨by rw [← bRs_len hs]; exact h1, by rw [c1]; exact a_le e1, by rw [hH.1, hl.2, bRs_ok r2, bRecv_s e4 r1 hH]; rfl, by rw [c2]; exact a_le e5⟩]
        · cases h
      · cases h
    · cases h
  · cases h
noncomputable def bInit : Nat → List bV → bL
  | n, [] => List.replicate n none
  | n, v :: r => match Nat.beq (bCat v) 2 with
    | true => some v :: none :: bInit (Nat.sub n 2) r
    | false => some v :: bInit (Nat.sub n 1) r
theorem bInit_s : ∀ {av : List bV} {cav : List Value} {m i : Nat}, bRs n ρ av cav → ∀ k v, bGet (bInit m av) k = some v → ∃ w, amGet (lv_args i cav) (i + k) = some w ∧ bR n ρ v w
  | [], [], m, i, _ => by
    intro k v h
    unfold bInit bGet at h
    rcases lAt_rep m k (none : Option bV) with z | z <;> rw [z] at h <;> cases h
  | v :: av, w :: cav, m, i, hs => by
    have hc := bR_cat hs.1
    unfold bInit
    split
    · next e =>
      have e := Nat.eq_of_beq_eq_true e
      have h1 := bInit_s (m := Nat.sub m 2) (i := i + 2) hs.2
      have hu : lv_args i (w :: cav) = (i, w) :: lv_args (i + 2) cav := by
        simp only [lv_args]
        rw [if_pos (by rw [hc, e])]
      rw [hu]
      intro k u h
      match k, h with
      | 0, h =>
        cases h
        exact ⟨w, by unfold amGet; exact if_pos rfl, hs.1⟩
      | 1, h => cases h
      | k + 2, h =>
        obtain ⟨x, x1, x2⟩ := h1 k u h
        refine ⟨x, ?_, x2⟩
        unfold amGet
        rw [if_neg (by dsimp only; omega), show i + (k + 2) = i + 2 + k by omega]
        exact x1
    · next e =>
      have e := a_nbeq e
      have h1 := bInit_s (m := Nat.sub m 1) (i := i + 1) hs.2
      have hu : lv_args i (w :: cav) = (i, w) :: lv_args (i + 1) cav := by
        simp only [lv_args]
        rw [if_neg (by rw [hc]; exact e)]
      rw [hu]
      intro k u h
      match k, h with
      | 0, h =>
        cases h
        exact ⟨w, by unfold amGet; exact if_pos rfl, hs.1⟩
      | k + 1, h =>
        obtain ⟨x, x1, x2⟩ := h1 k u h
        refine ⟨x, ?_, x2⟩
        unfold amGet
        rw [if_neg (by dsimp only; omega), show i + (k + 1) = i + 1 + k by omega]
        exact x1
  | [], _ :: _, _, _, h => by cases h
  | _ :: _, [], _, _, h => by cases h
theorem lv_args_ok : ∀ {cav : List Value} {i : Nat}, amOkS n cav = true → amOkL n (lv_args i cav) = true
  | [], i, _ => rfl
  | w :: cav, i, h => by
    simp only [amOkS, List.all_cons, Bool.and_eq_true] at h
    simp only [lv_args]
    exact amOkL_cons (lv_args_ok h.2) h.1
theorem bInit_l {av : List bV} {cav : List Value} {m : Nat} (hs : bRs n ρ av cav) : bRl n ρ (bInit m av) (lv_args 0 cav) :=
  ⟨fun k v e => by have := bInit_s (m := m) (i := 0) hs k v e; rwa [Nat.zero_add] at this, lv_args_ok (bRs_ok hs)⟩
noncomputable def bCons : Option bV → List bV → List bV
  | some v, r => v :: r
  | none, r => r
theorem bCons_s {v : Option bV} {w : Option Value} {r : List bV} {cr : List Value} (h : bRv n ρ v w) (hr : bRs n ρ r cr) : bRs n ρ (bCons v r) (w.toList ++ cr) := by
  match v, w, h with
  | none, none, _ => exact hr
  | some v, some w, h => exact ⟨h, hr⟩
noncomputable def bRes (E : bE) : Option bY → Option bV × bE
  | none => (none, E)
  | some y => (match bOfY E y with
    | (v, E') => (some v, E'))
theorem bRes_s {E : bE} (hE : bRE ρ E) {y : Option bY} {w : Option Value} (h : bRo n y w) : ∃ ρ', ρ <+: ρ' ∧ bRE ρ' (bRes E y).2 ∧ bRv n ρ' (bRes E y).1 w := by
  match y, w, h with
  | none, none, _ => exact ⟨ρ, List.prefix_refl _, hE, trivial⟩
  | some y, some w, h => exact bOfY_s (n := n) hE h
end BCL
noncomputable def bPick (T : Nat → Option bD) (n : Nat) (S : bS) (av : List bV) : List bSp → Option bSp
  | [] => none
  | s :: r => (match bArLe S.1 av s.1 with
    | true => (match lAll (bFaLe T n S) s.2.1 with
      | true => some s
      | false => bPick T n S av r)
    | false => bPick T n S av r)
theorem bPick_s {T : Nat → Option bD} {n : Nat} {S : bS} {av : List bV} : ∀ {l : List bSp} {s : bSp}, bPick T n S av l = some s → s ∈ l ∧ bArLe S.1 av s.1 = true ∧ lAll (bFaLe T n S) s.2.1 = true
  | t :: r, s, h => by
    unfold bPick at h
    split at h
    · next e1 =>
      split at h
      · next e2 => cases h; exact ⟨List.mem_cons_self, e1, e2⟩
      · exact ⟨List.mem_cons_of_mem _ (bPick_s h).1, (bPick_s h).2⟩
    · exact ⟨List.mem_cons_of_mem _ (bPick_s h).1, (bPick_s h).2⟩
abbrev bK : Type := (Option bV ⊕ Nat) → bS → Bool
abbrev bAr : Type := Nat → Option (bL → List bV → bS → Bool)
noncomputable def bNoA : bAr := fun _ => none
/-- what comes of a case of a callee -/
noncomputable def bCase (W : List (Nat × Nat)) (S : bS) (c : Option bY × List bFa) : Option bV × bS := match bRes S.1 c.1 with
  | (v, E1) => (match bAddF E1 (bFwo W S.2.1) c.2 with
    | (E2, F2) => (v, E2, F2, S.2.2))
/-- a run over invariants: A says where it stops and what holds there, K what holds at its end -/
noncomputable def bRun (G : Nat → Option amM) (SP : Nat → List bSp) (T : Nat → Option bD) (n : Nat) (Wd W : List (Nat × Nat)) : Nat → Nat → amM → bAr → amP → Nat → bL → List bV → bS → bK → Bool
  | 0, _, _, _, _, _, _, _, _, _ => false
  | _ + 1, _, _, _, [], _, _, _, _, _ => false
  | f + 1, d, M, A, q :: cs, pc, ls, st, S, K => match Nat.beq q.1 pc with
    | false => false
    | true => (match bActI T Wd M q with
      | none => false
      | some (.inl act) => (match act ls st S with
        | none => false
        | some L => lAll (fun g => match A g.1 with
          | some chk => chk g.2.1 g.2.2.1 g.2.2.2
          | none => bRun G SP T n Wd W f d M A (aNext M cs g.1) g.1 g.2.1 g.2.2.1 g.2.2.2 K) L)
      | some (.inr (.inl rt)) => (match rt S.1 st with
        | some v => K (.inl v) S
        | none => false)
      | some (.inr (.inr (.inl E))) => (match Nat.ble (bCs st) 8 with
        | true => K (.inr E) S
        | false => false)
      | some (.inr (.inr (.inr k))) => (match d with
        | 0 => false
        | d' + 1 => (match G q.2.2.1 with
          | none => false
          | some N => (match bCArgs T k N st with
            | none => false
            | some ar => (match SP q.2.2.1 with
              | [] => bRun G SP T n Wd W f d' N bNoA N.1 0 (bInit N.2.1 ar.1) [] S (fun x S1 => match x with
                | .inl v => (match A (Nat.add pc 3) with
                  | some chk => chk ls (bCons v ar.2) S1
                  | none => bRun G SP T n Wd W f (d' + 1) M A (aNext M cs (Nat.add pc 3)) (Nat.add pc 3) ls (bCons v ar.2) S1 K)
                | .inr E => (match amMay q.2.1 q.2.2.2 with
                  | false => false
                  | true => (match M.2.2.2.2.2.1 with
                    | [] => K (.inr E) S1
                    | _ :: _ => false)))
              | s0 :: ss => (match bPick T n S ar.1 (s0 :: ss) with
                | none => false
                | some s => (match Nat.ble s.2.2.1 d' with
                  | false => false
                  | true => (match bWs s.2.2.2.1 W with
                    | false => false
                    | true => (match lAll (fun c => match bCase s.2.2.2.1 S c with
                        | (v, S1) => (match A (Nat.add pc 3) with
                          | some chk => chk ls (bCons v ar.2) S1
                          | none => bRun G SP T n Wd W f (d' + 1) M A (aNext M cs (Nat.add pc 3)) (Nat.add pc 3) ls (bCons v ar.2) S1 K)) s.2.2.2.2.2 with
                      | false => false
                      | true => (match s.2.2.2.2.1 with
                        | [] => true
                        | E :: Es => (match amMay q.2.1 q.2.2.2 with
                          | false => false
                          | true => (match M.2.2.2.2.2.1 with
                            | [] => lAll (fun z => K (.inr z) (S.1, bFwo s.2.2.2.1 S.2.1, S.2.2)) (E :: Es)
                            | _ :: _ => false))))))))))))
end
/-! ##### 13.k.bsnd ##### -/
section
/-! ===== runs over invariants are sound ===== -/
noncomputable def bRx (n : Nat) (ρ : List Nat) : (Option bV ⊕ Nat) → (Option Value ⊕ Nat) → Prop
  | .inl v, .inl w => bRv n ρ v w
  | .inr E, .inr E' => E = E'
  | _, _ => False
theorem bCase_s {n : Nat} {ρ : List Nat} {W : List (Nat × Nat)} {S : bS} {hp hp1 : amH} (hS : bRS n ρ S hp) (hf : bFr W hp hp1) {c : Option bY × List bFa} {w : Option Value} (h1 : bRo n c.1 w) (h2 : bFacts hp1 c.2) : ∃ ρ', ρ <+: ρ' ∧ bRS n ρ' (bCase W S c).2 hp1 ∧ bRv n ρ' (bCase W S c).1 w := by
  obtain ⟨ρ1, g1, g2, g3⟩ := bRes_s (n := n) hS.1 h1
  unfold bCase
  split
  next v E1 e1 =>
  rw [e1] at g2 g3
  obtain ⟨ρ2, k1, k2, k3⟩ := bAddF_s (n := n) (F := bFwo W S.2.1) (hp := hp1) g2 (fun f hf2 => by
    obtain ⟨m1, m2⟩ := bFwo_s hf2
    obtain ⟨u, u1, u2⟩ := hS.2.1 f m1
    exact ⟨u, by rw [hf _ _ m2]; exact u1, bR_mono g1 u2⟩) h2
  split
  next E2 F2 e2 =>
  rw [e2] at k2 k3
  have h4 := bRS_ext (g1.trans k1) hS k2
  refine ⟨ρ2, g1.trans k1, ⟨k2, k3, h4.2.2⟩, ?_⟩
  match v, w, g3 with
  | none, none, _ => trivial
  | some v, some w, g3 => exact bR_mono k1 g3
section BSN
variable {G : Nat → Option amM} {SP : Nat → List bSp} {T : Nat → Option bD} {n : Nat} {Wd W : List (Nat × Nat)} {P : amH → Prop}
theorem bRun_s (hn : n ≤ 999999) (hSP : ∀ k s, s ∈ SP k → bSem G P n T k s) (hPd : ∀ hp hp1, bFr Wd hp hp1 → P hp → P hp1) (hW : bWs Wd W = true) :
    ∀ (f d : Nat) (M : amM) (A : bAr) (cs : amP) (pc : Nat) (ls : bL) (st : List bV) (S : bS) (K : bK), bRun G SP T n Wd W f d M A cs pc ls st S K = true → cs <:+ M.1 →
    ∀ (ρ : List Nat) (cl : amL) (cst : List Value) (hp : amH) (Q : (Option Value ⊕ Nat) → amH → Prop), bRel n T ρ ls st S cl cst hp → P hp →
    (∀ x S1 ρ1 y hp1, K x S1 = true → bRx n ρ1 x y → bRS n ρ1 S1 hp1 → ρ <+: ρ1 → bHk n T hp1 → P hp1 → bFr W hp hp1 → Q y hp1) →
    (∀ pc1 chk ls1 st1 S1 ρ1 cl1 cst1 hp1, A pc1 = some chk → chk ls1 st1 S1 = true → bRel n T ρ1 ls1 st1 S1 cl1 cst1 hp1 → ρ <+: ρ1 → P hp1 → bFr W hp hp1 → ∀ cs0, cs0 <:+ M.1 → bWp G d M (amNext M cs0 pc1) pc1 cl1 cst1 hp1 Q) →
    bWp G d M cs pc cl cst hp Q := by
  intro f
  induction f with
  | zero => intro d M A cs pc ls st S K h; unfold bRun at h; cases h
  | succ f ih =>
    intro d M A cs pc ls st S K h hsuf ρ cl cst hp Q hr hP hK hA
    cases cs with
    | nil => unfold bRun at h; cases h
    | cons q cs =>
      have hsuf2 : cs <:+ M.1 := (List.suffix_cons q cs).trans hsuf
      -- what goes on behind an instruction
      have next : ∀ (pc1 : Nat) (ls1 : bL) (st1 : List bV) (S1 : bS) (ρ1 : List Nat) (cl1 : amL) (cst1 : List Value) (hp1 : amH), (match A pc1 with
          | some chk => chk ls1 st1 S1
          | none => bRun G SP T n Wd W f d M A (aNext M cs pc1) pc1 ls1 st1 S1 K) = true → bRel n T ρ1 ls1 st1 S1 cl1 cst1 hp1 → ρ <+: ρ1 → P hp1 → bFr W hp hp1 → bWp G d M (amNext M cs pc1) pc1 cl1 cst1 hp1 Q := by
        intro pc1 ls1 st1 S1 ρ1 cl1 cst1 hp1 e hr1 hρ hP1 hf1
        split at e
        · next chk ec => exact hA _ _ _ _ _ _ _ _ _ ec e hr1 hρ hP1 hf1 cs hsuf2
        · next ec =>
          have e2 := aNext_suf (pc := pc1) hsuf2
          rw [aNext_eq] at e e2
          exact ih _ _ _ _ _ _ _ _ _ e e2 _ _ _ _ _ hr1 hP1 (fun x S2 ρ2 y hp2 k1 k2 k3 k4 k5 k6 k7 => hK x S2 ρ2 y hp2 k1 k2 k3 (hρ.trans k4) k5 k6 (hf1.trans k7))
            (fun pc2 chk ls2 st2 S2 ρ2 cl2 cst2 hp2 k1 k2 k3 k4 k5 k6 => hA pc2 chk ls2 st2 S2 ρ2 cl2 cst2 hp2 k1 k2 k3 (hρ.trans k4) k5 (hf1.trans k6))
      unfold bRun at h
      split at h
      · cases h
      · next e0 =>
        have e0 := Nat.eq_of_beq_eq_true e0
        subst e0
        split at h
        · cases h
        · next act ea =>
          split at h
          · cases h
          · next L eL =>
            obtain ⟨r, e1, g, hg, ρ1, h1, h2, h3, h4⟩ := bActI_k (n := n) (G := G) hn ea ls st S L ρ cl cst hp eL hr
            have e1 := amU_s e1
            have h5 := lAll_m h g hg
            refine bWp_step e1 ?_
            rw [h2] at h5
            exact next _ _ _ _ _ _ _ _ h5 h3 h1 (hPd _ _ h4 hP) (bFr_mono hW h4)
        · next rt ea =>
          split at h
          · next v ev =>
            obtain ⟨w, w1, w2⟩ := bActI_r (n := n) (G := G) ea hr.2.2.1.1 ev hr.2.1
            exact bWp_ret (w2 cl hp) (hK _ _ ρ _ _ h w1 hr.2.2.1 (List.prefix_refl _) hr.2.2.2 hP (bFr.refl _ _))
          · cases h
        · next E ea =>
          split at h
          · next e8 => exact bWp_thr (bActI_t ea (a_le e8) hr.2.1 cl hp) (hK _ _ ρ _ _ h rfl hr.2.2.1 (List.prefix_refl _) hr.2.2.2 hP (bFr.refl _ _))
          · cases h
        · next k ea =>
          split at h
          · cases h
          · next d' =>
            split at h
            · cases h
            · next N hN =>
              split at h
              · cases h
              · next ar har =>
                obtain ⟨cav, crest, c1, c2, c3⟩ := bCArgs_s (av := ar.1) (rest := ar.2) hN har hr.1 hr.2.1 hr.2.2.2
                have hdo := (bActI_c (G := G) ea cl cst hp).trans c1
                split at h
                · refine bWp_call hdo hN ?_
                  refine ih _ _ _ _ _ _ _ _ _ h (List.suffix_refl _) ρ _ _ _ _ ⟨bInit_l c2, trivial, hr.2.2.1, hr.2.2.2⟩ hP ?_ (fun pc1 chk ls1 st1 S1 ρ1 cl1 cst1 hp1 z => by cases z)
                  intro x S1 ρ1 y hp1 k1 k2 k3 k4 k5 k6 k7
                  match x, y, k2 with
                  | .inl v, .inl w, k2 =>
                    exact next _ _ _ _ _ _ _ _ k1 ⟨bRl_mono k4 hr.1, bCons_s k2 (bRs_mono k4 c3), k3, k5⟩ k4 k6 k7
                  | .inr E, .inr E', k2 =>
                    have k2 : E = E' := k2
                    subst k2
                    dsimp only at k1 ⊢
                    split at k1
                    · cases k1
                    · next em =>
                      split at k1
                      · next eh => exact ⟨em, eh, hK _ _ ρ1 _ _ k1 rfl k3 k4 k5 k6 k7⟩
                      · cases k1
                · next s0 ss esp =>
                  split at h
                  · cases h
                  · next s es =>
                    obtain ⟨p1, p2, p3⟩ := bPick_s es
                    split at h
                    · cases h
                    · next ed =>
                      split at h
                      · cases h
                      · next ew =>
                        split at h
                        · cases h
                        · next ec =>
                          obtain ⟨N', hN', hsem⟩ := hSP q.2.2.1 s (by rw [esp]; exact p1)
                          rw [hN] at hN'
                          cases hN'
                          have hw := hsem cav hp hr.2.2.2 hP (bArLe_s hr.2.2.1.1 p2 c2) (bFaAll_s hr.2.2.1 hr.2.2.2 p3)
                          refine bWp_call hdo hN (bWp_mono (bWp_deep hw (a_le ed)) ?_)
                          intro y hp1 ⟨k5, k6, k7, k8⟩
                          have k9 := bFr_mono ew k7
                          cases y with
                          | inl w =>
                            obtain ⟨c, hc, m1, m2⟩ := k8
                            obtain ⟨ρ1, k4, k3, k2⟩ := bCase_s (n := n) (ρ := ρ) (W := s.2.2.2.1) hr.2.2.1 k7 m1 m2
                            have h6 := lAll_m ec c hc
                            dsimp only at h6 ⊢
                            exact next _ _ _ _ _ _ _ _ h6 ⟨bRl_mono k4 hr.1, bCons_s k2 (bRs_mono k4 c3), k3, k5⟩ k4 k6 k9
                          | inr E =>
                            have k8 : E ∈ s.2.2.2.2.1 := k8
                            split at h
                            · next e9 => rw [e9] at k8; cases k8
                            · next E0 Es e9 =>
                              split at h
                              · cases h
                              · next em =>
                                split at h
                                · next eh =>
                                  have h6 := lAll_m h E (by rw [← e9]; exact k8)
                                  refine ⟨em, eh, hK _ _ ρ _ _ h6 rfl ⟨hr.2.2.1.1, fun f hf => ?_, hr.2.2.1.2.2⟩ (List.prefix_refl _) k5 k6 k9⟩
                                  obtain ⟨m1, m2⟩ := bFwo_s hf
                                  obtain ⟨u, u1, u2⟩ := hr.2.2.1.2.1 f m1
                                  exact ⟨u, by rw [k7 _ _ m2]; exact u1, u2⟩
                                · cases h
end BSN
end
/-! ##### 13.l.bcut ##### -/
section
/-! ===== runs over invariants: places where runs are cut, measures; a method's check ===== -/
abbrev bPl : Type := Nat ⊕ (Nat × Nat)
abbrev bRl2 : Type := bPl × Nat × bPl
abbrev bMe : Type := Nat × Nat × Nat
abbrev bCu : Type := Nat × List (Option bY) × List bFa × List bRl2 × List bMe
noncomputable def bPlC (cl : amL) (hp : amH) : bPl → Option Value
  | .inl k => amGet cl k
  | .inr q => bFld hp q.1 q.2
noncomputable def bPlV (ls : bL) (F : bF) : bPl → Option bV
  | .inl k => bGet ls k
  | .inr q => bFget F q.1 q.2
noncomputable def bOffV : Option Value → Nat
  | some (.int x) => aOff x
  | _ => 0
noncomputable def bCuR (n : Nat) (c : bCu) (cl : amL) (hp : amH) : Prop := amOkL n cl = true ∧ (∀ k y, lAt c.2.1 k = some (some y) → ∃ w, amGet cl k = some w ∧ bYr n y w) ∧ bFacts hp c.2.2.1 ∧ (∀ r ∈ c.2.2.2.1, ∃ x y : Int32, bPlC cl hp r.1 = some (.int x) ∧ bPlC cl hp r.2.2 = some (.int y) ∧ aOff x + r.2.1 ≤ aOff y)
noncomputable def bShN (v : bV) (d : Nat) : bV := match v with
  | .inl k => .inl (Nat.add k d)
  | .inr (.inl q) => .inr (.inl (q.1, Nat.add q.2 d))
  | v => v
theorem bShN_s {ρ : List Nat} {v : bV} {a d : Nat} (h : bNum ρ v = some a) : bNum ρ (bShN v d) = some (a + d) := by
  match v, h with
  | .inl k, h =>
    have h := Option.some.inj h
    subst h
    show some (k + d + bB) = some (k + bB + d)
    rw [Nat.add_right_comm]
  | .inr (.inl q), h =>
    simp only [bNum, bShN] at h ⊢
    split at h
    · next r e =>
      have h := Option.some.inj h
      subst h
      show some (r + (q.2 + d)) = some (r + q.2 + d)
      rw [Nat.add_assoc]
    · cases h
/-! the state at a cut -/
noncomputable def bStL (E : bE) : List (Option bY) → bL × bE
  | [] => ([], E)
  | none :: r => (match bStL E r with
    | (ls, E') => (none :: ls, E'))
  | some y :: r => (match bOfY E y with
    | (v, E1) => (match bStL E1 r with
      | (ls, E') => (some v :: ls, E')))
noncomputable def bStR (ls : bL) (F : bF) : List bRl2 → Option bRt
  | [] => some []
  | r :: rs => (match bPlV ls F r.1 with
    | some u => (match bPlV ls F r.2.2 with
      | some v => (match bStR ls F rs with
        | some R => some ((bShN u r.2.1, v) :: R)
        | none => none)
      | none => none)
    | none => none)
noncomputable def bSta (c : bCu) : Option (bL × bS) := match bStL [] c.2.1 with
  | (ls, E) => (match bAddF E [] c.2.2.1 with
    | (E', F) => (match bStR ls F c.2.2.2.1 with
      | some R => some (ls, E', F, R, [])
      | none => none))
section BCU
variable {n : Nat} {T : Nat → Option bD}
theorem bStL_s : ∀ {ys : List (Option bY)} {ρ : List Nat} {E : bE} {g : Nat → Option Value}, bRE ρ E → (∀ k y, lAt ys k = some (some y) → ∃ w, g k = some w ∧ bYr n y w) → ∃ ρ', ρ <+: ρ' ∧ bRE ρ' (bStL E ys).2 ∧ ∀ k v, bGet (bStL E ys).1 k = some v → ∃ w, g k = some w ∧ bR n ρ' v w
  | [], ρ, E, g, hE, _ => ⟨ρ, List.prefix_refl _, hE, fun k v h => by cases h⟩
  | none :: r, ρ, E, g, hE, h => by
    obtain ⟨ρ', h1, h2, h3⟩ := bStL_s (ys := r) (g := fun k => g (k + 1)) hE (fun k y e => h (k + 1) y e)
    refine ⟨ρ', h1, ?_, fun k v e => ?_⟩
    · unfold bStL; exact h2
    · unfold bStL at e
      match k, e with
      | 0, e => cases e
      | k + 1, e => exact h3 k v e
  | some y :: r, ρ, E, g, hE, h => by
    obtain ⟨w, w1, w2⟩ := h 0 y rfl
    obtain ⟨ρ1, g1, g2, g3⟩ := bOfY_s (n := n) hE w2
    obtain ⟨ρ', h1, h2, h3⟩ := bStL_s (ys := r) (g := fun k => g (k + 1)) g2 (fun k y e => h (k + 1) y e)
    refine ⟨ρ', g1.trans h1, ?_, fun k v e => ?_⟩
    · unfold bStL; exact h2
    · unfold bStL at e
      match k, e with
      | 0, e => cases e; exact ⟨w, w1, bR_mono h1 g3⟩
      | k + 1, e => exact h3 k v e
theorem bPl_s {ρ : List Nat} {ls : bL} {F : bF} {cl : amL} {hp : amH} (hl : ∀ k v, bGet ls k = some v → ∃ w, amGet cl k = some w ∧ bR n ρ v w) (hF : ∀ f ∈ F, ∃ w, bFld hp f.1 f.2.1 = some w ∧ bR n ρ f.2.2 w) {p : bPl} {v : bV} (h : bPlV ls F p = some v) : ∃ w, bPlC cl hp p = some w ∧ bR n ρ v w := by
  match p, h with
  | .inl k, h => exact hl k v h
  | .inr q, h => exact hF _ (bFget_s h)
theorem bStR_s {ρ : List Nat} {ls : bL} {F : bF} {cl : amL} {hp : amH} (hl : ∀ k v, bGet ls k = some v → ∃ w, amGet cl k = some w ∧ bR n ρ v w) (hF : ∀ f ∈ F, ∃ w, bFld hp f.1 f.2.1 = some w ∧ bR n ρ f.2.2 w) :
    ∀ {rs : List bRl2} {R : bRt}, bStR ls F rs = some R → (∀ r ∈ rs, ∃ x y : Int32, bPlC cl hp r.1 = some (.int x) ∧ bPlC cl hp r.2.2 = some (.int y) ∧ aOff x + r.2.1 ≤ aOff y) → ∀ r ∈ R, ∃ a b, bNum ρ r.1 = some a ∧ bNum ρ r.2 = some b ∧ a ≤ b
  | [], R, h, _ => by cases h; intro r hr; cases hr
  | r :: rs, R, h, hr => by
    unfold bStR at h
    split at h
    · next u eu =>
      split at h
      · next v ev =>
        split at h
        · next R' eR =>
          cases h
          obtain ⟨x, y, h1, h2, h3⟩ := hr r List.mem_cons_self
          obtain ⟨w, w1, w2⟩ := bPl_s hl hF eu
          rw [h1] at w1
          cases w1
          obtain ⟨w', w3, w4⟩ := bPl_s hl hF ev
          rw [h2] at w3
          cases w3
          intro z hz
          cases hz with
          | head => exact ⟨_, _, bShN_s (bNum_s w2), bNum_s w4, by omega⟩
          | tail _ hz => exact bStR_s hl hF eR (fun r h => hr r (List.mem_cons_of_mem _ h)) z hz
        · cases h
      · cases h
    · cases h
theorem bSta_s {c : bCu} {ls : bL} {S : bS} (h : bSta c = some (ls, S)) {cl : amL} {hp : amH} (hc : bCuR n c cl hp) (hH : bHk n T hp) : ∃ ρ, bRel n T ρ ls [] S cl [] hp := by
  obtain ⟨ρ1, -, h2, h3⟩ := bStL_s (n := n) (ρ := []) (E := []) (g := amGet cl) ⟨rfl, fun i a b e => by cases e⟩ hc.2.1
  unfold bSta at h
  split at h
  next ls1 E1 e1 =>
  rw [e1] at h2 h3
  obtain ⟨ρ2, k1, k2, k3⟩ := bAddF_s (n := n) (F := []) (hp := hp) h2 (fun f hf => by cases hf) hc.2.2.1
  split at h
  next E2 F e2 =>
  rw [e2] at k2 k3
  have h3' : ∀ k v, bGet ls1 k = some v → ∃ w, amGet cl k = some w ∧ bR n ρ2 v w := fun k v e => (h3 k v e).imp fun _ z => ⟨z.1, bR_mono k1 z.2⟩
  split at h
  · next R eR =>
    cases h
    exact ⟨ρ2, ⟨h3', hc.1⟩, trivial, ⟨k2, k3, bStR_s h3' k3 eR hc.2.2.2, fun m hm => by cases hm⟩, hH⟩
  · cases h
end BCU
/-! what is known of two numbers -/
noncomputable def bRlK (u v : bV) : bRt → Bool
  | [] => false
  | r :: R => (match u with
    | .inr (.inl p) => (match v with
      | .inr (.inl q) => (match r.1 with
        | .inr (.inl p') => (match r.2 with
          | .inr (.inl q') => (match Nat.beq p.1 p'.1 with
            | true => (match Nat.beq q.1 q'.1 with
              | true => (match Nat.ble (Nat.add p.2 q'.2) (Nat.add q.2 p'.2) with
                | true => true
                | false => bRlK u v R)
              | false => bRlK u v R)
            | false => bRlK u v R)
          | _ => bRlK u v R)
        | _ => bRlK u v R)
      | _ => false)
    | _ => false)
noncomputable def bSame (u v : bV) : Bool := match u with
  | .inr (.inl p) => (match v with
    | .inr (.inl q) => (match Nat.beq p.1 q.1 with
      | true => Nat.ble p.2 q.2
      | false => false)
    | _ => false)
  | _ => false
noncomputable def bRlC (S : bS) (u v : bV) : Bool := match bSame u v with
  | true => true
  | false => (match bIvN S.1 u with
    | some p => (match bIvN S.1 v with
      | some q => (match Nat.ble p.2 q.1 with
        | true => true
        | false => bRlK u v S.2.2.1)
      | none => false)
    | none => false)
theorem bRlK_s {ρ : List Nat} {u v : bV} {a b : Nat} (hu : bNum ρ u = some a) (hv : bNum ρ v = some b) : ∀ {R : bRt}, bRlK u v R = true → (∀ r ∈ R, ∃ a b, bNum ρ r.1 = some a ∧ bNum ρ r.2 = some b ∧ a ≤ b) → a ≤ b
  | r :: R, h, hR => by
    have ih := fun z => bRlK_s hu hv (R := R) z (fun r h => hR r (List.mem_cons_of_mem _ h))
    unfold bRlK at h
    split at h
    · next p =>
      split at h
      · next q =>
        split at h
        · next p' e1 =>
          split at h
          · next q' e2 =>
            split at h
            · next e3 =>
              split at h
              · next e4 =>
                split at h
                · next e5 =>
                  have e3 := Nat.eq_of_beq_eq_true e3
                  have e4 := Nat.eq_of_beq_eq_true e4
                  have e5 : p.2 + q'.2 ≤ q.2 + p'.2 := a_le e5
                  obtain ⟨a', b', g1, g2, g3⟩ := hR r List.mem_cons_self
                  rw [e1] at g1
                  rw [e2] at g2
                  simp only [bNum] at hu hv g1 g2
                  rw [← e3] at g1
                  rw [← e4] at g2
                  split at hu
                  · next x ex =>
                    split at hv
                    · next y ey =>
                      rw [ex] at g1
                      rw [ey] at g2
                      have hu := Option.some.inj hu
                      have hv := Option.some.inj hv
                      have g1 := Option.some.inj g1
                      have g2 := Option.some.inj g2
                      omega
                    · cases hv
                  · cases hu
                · exact ih h
              · exact ih h
            · exact ih h
          · exact ih h
        · exact ih h
      · cases h
    · cases h
theorem bSame_s {ρ : List Nat} {u v : bV} {a b : Nat} (h : bSame u v = true) (hu : bNum ρ u = some a) (hv : bNum ρ v = some b) : a ≤ b := by
  unfold bSame at h
  split at h
  · next p =>
    split at h
    · next q =>
      split at h
      · next e =>
        have e := Nat.eq_of_beq_eq_true e
        have h := a_le h
        simp only [bNum] at hu hv
        rw [e] at hu
        split at hv
        · next r e2 =>
          rw [e2] at hu
          have hu := Option.some.inj hu
          have hv := Option.some.inj hv
          omega
        · cases hv
      · cases h
    · cases h
  · cases h
theorem bRlC_s {n : Nat} {ρ : List Nat} {S : bS} {hp : amH} (hS : bRS n ρ S hp) {u v : bV} {a b : Nat} (h : bRlC S u v = true) (hu : bNum ρ u = some a) (hv : bNum ρ v = some b) : a ≤ b := by
  unfold bRlC at h
  split at h
  · next e => exact bSame_s e hu hv
  · split at h
    · next p ep =>
      split at h
      · next q eq =>
        split at h
        · next e =>
          have h1 := bIvN_s hS.1 ep hu
          have h2 := bIvN_s hS.1 eq hv
          have h3 := a_le e
          omega
        · exact bRlK_s hu hv h hS.2.2.1
      · cases h
    · cases h
/-! measures -/
noncomputable def bM33 : Nat := 8589934591
noncomputable def bMu (cl : amL) (hp : amH) (m : bMe) : Nat := match m.1 with
  | 0 => min m.2.1 bM33
  | 1 => 4294967296 - bOffV (amGet cl m.2.1)
  | 2 => min (bOffV (amGet cl m.2.1)) 4294967296
  | 3 => 4294967296 - bOffV (bFld hp m.2.1 m.2.2)
  | _ => min (bOffV (bFld hp m.2.1 m.2.2)) 4294967296
theorem bMu_le (cl : amL) (hp : amH) (m : bMe) : bMu cl hp m ≤ bM33 := by
  unfold bMu bM33
  split <;> omega
noncomputable def bEnc : List Nat → Nat
  | [] => 0
  | m :: r => m * 8589934592 ^ r.length + bEnc r
theorem bEnc_lt : ∀ {l : List Nat}, (∀ m ∈ l, m ≤ bM33) → bEnc l < 8589934592 ^ l.length
  | [], _ => by show 0 < 8589934592 ^ 0; exact Nat.pow_pos (by omega)
  | m :: r, h => by
    have h1 := bEnc_lt (l := r) (fun m hm => h m (List.mem_cons_of_mem _ hm))
    have h2 : m ≤ 8589934591 := h m List.mem_cons_self
    show m * 8589934592 ^ r.length + bEnc r < 8589934592 ^ (r.length + 1)
    rw [Nat.pow_succ]
    generalize 8589934592 ^ r.length = z at h1 ⊢
    have h3 : m * z ≤ 8589934591 * z := Nat.mul_le_mul_right _ h2
    omega
/-- less, by the first that differs -/
noncomputable def bLex : List Nat → List Nat → Prop
  | a :: r, b :: s => a < b ∨ (a = b ∧ bLex r s)
  | _, _ => False
theorem bEnc_lex : ∀ {l k : List Nat}, bLex l k → l.length = k.length → (∀ m ∈ l, m ≤ bM33) → (∀ m ∈ k, m ≤ bM33) → bEnc l < bEnc k
  | a :: r, b :: s, h, hl, h1, h2 => by
    have hl2 : r.length = s.length := by simpa using hl
    show a * 8589934592 ^ r.length + bEnc r < b * 8589934592 ^ s.length + bEnc s
    rcases h with h | ⟨h, h3⟩
    · have g1 := bEnc_lt (l := r) (fun m hm => h1 m (List.mem_cons_of_mem _ hm))
      rw [hl2] at g1 ⊢
      generalize 8589934592 ^ s.length = z at g1 ⊢
      have g2 : (a + 1) * z ≤ b * z := Nat.mul_le_mul_right _ h
      rw [Nat.succ_mul] at g2
      omega
    · have g1 := bEnc_lex h3 hl2 (fun m hm => h1 m (List.mem_cons_of_mem _ hm)) (fun m hm => h2 m (List.mem_cons_of_mem _ hm))
      rw [h, hl2]
      omega
/-- 0: less; 1: the same; 2: not known -/
noncomputable def bMvC (up : Bool) (u v : bV) : Nat := match bVq u v with
  | true => 1
  | false => (match u with
    | .inr (.inl p) => (match v with
      | .inr (.inl q) => (match Nat.beq p.1 q.1 with
        | true => (match up with
          | true => (match Nat.ble (Nat.add p.2 1) q.2 with
            | true => 0
            | false => 2)
          | false => (match Nat.ble (Nat.add q.2 1) p.2 with
            | true => 0
            | false => 2))
        | false => 2)
      | _ => 2)
    | _ => 2)
noncomputable def bMeC (l0 : bL) (S0 : bS) (l1 : bL) (S1 : bS) (a b : bMe) : Nat := match a.1 with
  | 0 => (match b.1 with
    | 0 => (match Nat.ble a.2.1 8589934591 with
      | true => (match Nat.beq b.2.1 a.2.1 with
        | true => 1
        | false => (match Nat.ble (Nat.add b.2.1 1) a.2.1 with
          | true => 0
          | false => 2))
      | false => 2)
    | _ + 1 => (match Nat.ble 4294967297 a.2.1 with
      | true => 0
      | false => 2))
  | 1 => (match b.1 with
    | 1 => (match bGet l0 a.2.1 with
      | some u => (match bGet l1 b.2.1 with
        | some v => bMvC true u v
        | none => 2)
      | none => 2)
    | _ => 2)
  | 2 => (match b.1 with
    | 2 => (match bGet l0 a.2.1 with
      | some u => (match bGet l1 b.2.1 with
        | some v => bMvC false u v
        | none => 2)
      | none => 2)
    | _ => 2)
  | 3 => (match b.1 with
    | 3 => (match bFget S0.2.1 a.2.1 a.2.2 with
      | some u => (match bFget S1.2.1 b.2.1 b.2.2 with
        | some v => bMvC true u v
        | none => 2)
      | none => 2)
    | _ => 2)
  | 4 => (match b.1 with
    | 4 => (match bFget S0.2.1 a.2.1 a.2.2 with
      | some u => (match bFget S1.2.1 b.2.1 b.2.2 with
        | some v => bMvC false u v
        | none => 2)
      | none => 2)
    | _ => 2)
  | _ => 2
noncomputable def bMeL (l0 : bL) (S0 : bS) (l1 : bL) (S1 : bS) : List bMe → List bMe → Bool
  | a :: r, b :: s => (match bMeC l0 S0 l1 S1 a b with
    | 0 => Nat.beq r.length s.length
    | 1 => bMeL l0 S0 l1 S1 r s
    | _ => false)
  | _, _ => false
end
