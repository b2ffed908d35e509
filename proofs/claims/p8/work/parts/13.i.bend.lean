/-! ===== runs over invariants: what a run comes to ===== -/
def bCnt : (Option Value ⊕ Nat) → Nat × Nat
  | .inl _ => (0, 0)
  | .inr _ => (1, 6)
/-- a run ends, and what comes of it is as Q says -/
def bWp (G : Nat → Option amM) (d : Nat) (M : amM) (cs : amP) (pc : Nat) (cl : amL) (st : List Value) (hp : amH) (Q : (Option Value ⊕ Nat) → amH → Prop) : Prop :=
  ∃ f y hp1, amRun G none f d M cs pc cl st hp 0 0 = some (y, hp1, (bCnt y).1, (bCnt y).2) ∧ Q y hp1
section BWP
variable {G : Nat → Option amM} {d : Nat} {M : amM} {cs : amP} {q : Nat × amIn1} {cl : amL} {st : List Value} {hp : amH} {Q : (Option Value ⊕ Nat) → amH → Prop}
theorem bWp_step {r : amR} (h : amDo G M none q.2.1 q.2.2.1 q.2.2.2 q.1 cl st hp = some (.inl (r, 0, 0))) (hw : bWp G d M (amNext M cs r.1) r.1 r.2.1 r.2.2.1 r.2.2.2 Q) : bWp G d M (q :: cs) q.1 cl st hp Q := by
  obtain ⟨f, y, hp1, h1, h2⟩ := hw
  refine ⟨f + 1, y, hp1, ?_, h2⟩
  simp only [amRun, if_true, h, Nat.add_zero]
  exact h1
theorem bWp_ret {v : Option Value} (h : amDo G M none q.2.1 q.2.2.1 q.2.2.2 q.1 cl st hp = some (.inr (.inl v))) (hQ : Q (.inl v) hp) : bWp G d M (q :: cs) q.1 cl st hp Q :=
  ⟨1, .inl v, hp, by simp only [amRun, if_true, h]; rfl, hQ⟩
theorem bWp_thr {E : Nat} (h : amDo G M none q.2.1 q.2.2.1 q.2.2.2 q.1 cl st hp = some (.inr (.inr (.inl E)))) (hQ : Q (.inr E) hp) : bWp G d M (q :: cs) q.1 cl st hp Q :=
  ⟨1, .inr E, hp, by simp only [amRun, if_true, h]; rfl, hQ⟩
theorem bWp_call {k : Nat} {av rest : List Value} {N : amM} (h : amDo G M none q.2.1 q.2.2.1 q.2.2.2 q.1 cl st hp = some (.inr (.inr (.inr (k, av, rest))))) (hN : G k = some N)
    (hw : bWp G d N N.1 0 (lv_args 0 av) [] hp (fun y hp1 => match y with
      | .inl v => bWp G (d + 1) M (amNext M cs (q.1 + 3)) (q.1 + 3) cl (v.toList ++ rest) hp1 Q
      | .inr E => amMay q.2.1 q.2.2.2 = true ∧ M.2.2.2.2.2.1 = [] ∧ Q (.inr E) hp1)) : bWp G (d + 1) M (q :: cs) q.1 cl st hp Q := by
  obtain ⟨f, y, hp1, h1, h2⟩ := hw
  cases y with
  | inl v =>
    obtain ⟨f2, y2, hp2, g1, g2⟩ := h2
    refine ⟨max f f2 + 1, y2, hp2, ?_, g2⟩
    have h1 := amRun_more _ _ _ _ _ _ _ _ _ _ _ _ h1 (max f f2) d (Nat.le_max_left _ _) (Nat.le_refl _)
    have g1 := amRun_more _ _ _ _ _ _ _ _ _ _ _ _ g1 (max f f2) (d + 1) (Nat.le_max_right _ _) (Nat.le_refl _)
    simp only [amRun, if_true, h, hN, h1]
    exact g1
  | inr E =>
    obtain ⟨g1, g2, g3⟩ := h2
    refine ⟨f + 1, .inr E, hp1, ?_, g3⟩
    simp only [amRun, if_true, h, hN, h1, g1, g2]
    rfl
end BWP
theorem bWp_mono {G : Nat → Option amM} {d : Nat} {M : amM} {cs : amP} {pc : Nat} {cl : amL} {st : List Value} {hp : amH} {Q R : (Option Value ⊕ Nat) → amH → Prop} (h : bWp G d M cs pc cl st hp Q) (hQ : ∀ y hp1, Q y hp1 → R y hp1) : bWp G d M cs pc cl st hp R := by
  obtain ⟨f, y, hp1, h1, h2⟩ := h
  exact ⟨f, y, hp1, h1, hQ _ _ h2⟩
theorem bWp_deep {G : Nat → Option amM} {d e : Nat} {M : amM} {cs : amP} {pc : Nat} {cl : amL} {st : List Value} {hp : amH} {Q : (Option Value ⊕ Nat) → amH → Prop} (h : bWp G d M cs pc cl st hp Q) (hd : d ≤ e) : bWp G e M cs pc cl st hp Q := by
  obtain ⟨f, y, hp1, h1, h2⟩ := h
  exact ⟨f, y, hp1, amRun_more _ _ _ _ _ _ _ _ _ _ _ _ h1 f e (Nat.le_refl _) hd, h2⟩
/-! what is said of a method: arguments, facts before, depth, what it may write, what it may throw, what may come of it -/
abbrev bFa : Type := Nat × Nat × Nat × Nat
abbrev bSp : Type := List bY × List bFa × Nat × List (Nat × Nat) × List Nat × List (Option bY × List bFa)
def bFacts (hp : amH) (fs : List bFa) : Prop := ∀ f ∈ fs, ∃ x, bFld hp f.1 f.2.1 = some (.int x) ∧ f.2.2.1 ≤ aOff x ∧ aOff x ≤ f.2.2.2
def bArgs (n : Nat) : List bY → List Value → Prop
  | [], [] => True
  | y :: ys, w :: ws => bYr n y w ∧ bArgs n ys ws
  | _, _ => False
def bRo (n : Nat) : Option bY → Option Value → Prop
  | none, none => True
  | some y, some w => bYr n y w
  | _, _ => False
def bOut (n : Nat) (s : bSp) (y : Option Value ⊕ Nat) (hp : amH) : Prop := match y with
  | .inl v => ∃ c ∈ s.2.2.2.2.2, bRo n c.1 v ∧ bFacts hp c.2
  | .inr E => E ∈ s.2.2.2.2.1
def bSem (G : Nat → Option amM) (P : amH → Prop) (n : Nat) (T : Nat → Option bD) (k : Nat) (s : bSp) : Prop :=
  ∃ N, G k = some N ∧ ∀ (av : List Value) (hp : amH), bHk n T hp → P hp → bArgs n s.1 av → bFacts hp s.2.1 →
    bWp G s.2.2.1 N N.1 0 (lv_args 0 av) [] hp (fun y hp1 => bHk n T hp1 ∧ P hp1 ∧ bFr s.2.2.2.1 hp hp1 ∧ bOut n s y hp1)
/-! checks -/
def bDfl (T : Nat → Option bD) (c k : Nat) : Option bY := match T c with
  | some D => (match Nat.ble 32 D.1 with
    | true => none
    | false => (match Nat.ble (Nat.add k 1) D.2.1 with
      | true => lAt D.2.2 k
      | false => none))
  | none => none
def bFaLe (T : Nat → Option bD) (n : Nat) (S : bS) (f : bFa) : Bool := match bFget S.2.1 f.1 f.2.1 with
  | some v => bLe S.1 v (.inl f.2.2)
  | none => (match bDfl T f.1 f.2.1 with
    | some y => (match Nat.ble (Nat.add f.1 1) n with
      | true => bYle y (.inl f.2.2)
      | false => false)
    | none => false)
def bArLe (E : bE) : List bV → List bY → Bool
  | [], [] => true
  | v :: vs, y :: ys => (match bLe E v y with
    | true => bArLe E vs ys
    | false => false)
  | _, _ => false
section BCH
variable {n : Nat} {T : Nat → Option bD} {ρ : List Nat}
theorem bFaLe_s {S : bS} {hp : amH} (hS : bRS n ρ S hp) (hH : bHk n T hp) {f : bFa} (h : bFaLe T n S f = true) : ∃ x, bFld hp f.1 f.2.1 = some (.int x) ∧ f.2.2.1 ≤ aOff x ∧ aOff x ≤ f.2.2.2 := by
  unfold bFaLe at h
  split at h
  · next v e =>
    obtain ⟨w, h1, h2⟩ := hS.2.1 _ (bFget_s e)
    obtain ⟨x, rfl, h3⟩ := bLe_s hS.1 h h2
    exact ⟨x, h1, h3⟩
  · split at h
    · next y e =>
      split at h
      · next e1 =>
        unfold bDfl at e
        split at e
        · next D eD =>
          split at e
          · cases e
          · next e2 =>
            split at e
            · next e3 =>
              obtain ⟨d, g1, g2⟩ := bHk_at hH (a_lt1 e1) eD
              have hlt : f.2.1 < d.2.length := by rw [g2.2.1]; exact a_lt1 e3
              obtain ⟨y', g3, g4⟩ := g2.2.2 f.2.1 _ (List.getElem?_eq_getElem hlt)
              unfold bDy at g3
              rw [e2] at g3
              dsimp only at g3
              rw [e] at g3
              cases g3
              obtain ⟨x, hx, h3⟩ := bYle_s h g4
              refine ⟨x, ?_, h3⟩
              unfold bFld
              rw [g1]
              dsimp only
              rw [List.getElem?_eq_getElem hlt, hx]
            · cases e
        · cases e
      · cases h
    · cases h
theorem bFaAll_s {S : bS} {hp : amH} (hS : bRS n ρ S hp) (hH : bHk n T hp) {fs : List bFa} (h : lAll (bFaLe T n S) fs = true) : bFacts hp fs := fun f hf => bFaLe_s hS hH (lAll_m h f hf)
theorem bArLe_s {E : bE} (hE : bRE ρ E) : ∀ {vs : List bV} {ys : List bY} {ws : List Value}, bArLe E vs ys = true → bRs n ρ vs ws → bArgs n ys ws
  | [], [], [], _, _ => trivial
  | v :: vs, y :: ys, w :: ws, h, hs => by
    unfold bArLe at h
    split at h
    · next e => exact ⟨bLe_s hE e hs.1, bArLe_s hE h hs.2⟩
    · cases h
/-- new facts -/
def bAddF (E : bE) (F : bF) : List bFa → bE × bF
  | [] => (E, F)
  | f :: r => (match bNew E f.2.2 with
    | (v, E') => bAddF E' ((f.1, f.2.1, v) :: F) r)
theorem bAddF_s : ∀ {fs : List bFa} {ρ : List Nat} {E : bE} {F : bF} {hp : amH}, bRE ρ E → (∀ f ∈ F, ∃ w, bFld hp f.1 f.2.1 = some w ∧ bR n ρ f.2.2 w) → bFacts hp fs → ∃ ρ', ρ <+: ρ' ∧ bRE ρ' (bAddF E F fs).1 ∧ ∀ f ∈ (bAddF E F fs).2, ∃ w, bFld hp f.1 f.2.1 = some w ∧ bR n ρ' f.2.2 w
  | [], ρ, E, F, hp, hE, hF, _ => ⟨ρ, List.prefix_refl _, hE, hF⟩
  | f :: r, ρ, E, F, hp, hE, hF, h => by
    obtain ⟨x, h1, h2⟩ := h f List.mem_cons_self
    obtain ⟨ρ', g1, g2, g3⟩ := bNew_s (n := n) hE (q := f.2.2) (bIn_off.mpr h2)
    unfold bAddF
    split
    next v E' e =>
    rw [e] at g2 g3
    obtain ⟨ρ2, k1, k2, k3⟩ := bAddF_s (fs := r) (F := (f.1, f.2.1, v) :: F) (hp := hp) g2 (fun z hz => by
      cases hz with
      | head => exact ⟨_, h1, g3⟩
      | tail _ hz => exact (hF z hz).imp fun _ q => ⟨q.1, bR_mono g1 q.2⟩) (fun z hz => h z (List.mem_cons_of_mem _ hz))
    exact ⟨ρ2, g1.trans k1, k2, k3⟩
def bFwo (W : List (Nat × Nat)) : bF → bF
  | [] => []
  | f :: r => (match bIn W f.1 f.2.1 with
    | true => bFwo W r
    | false => f :: bFwo W r)
theorem bFwo_s {W : List (Nat × Nat)} : ∀ {F : bF} {f : Nat × Nat × bV}, f ∈ bFwo W F → f ∈ F ∧ bIn W f.1 f.2.1 = false
  | g :: r, f, h => by
    unfold bFwo at h
    split at h
    · exact ⟨List.mem_cons_of_mem _ (bFwo_s h).1, (bFwo_s h).2⟩
    · next e =>
      cases h with
      | head => exact ⟨List.mem_cons_self, e⟩
      | tail _ h => exact ⟨List.mem_cons_of_mem _ (bFwo_s h).1, (bFwo_s h).2⟩
def bWs (V W : List (Nat × Nat)) : Bool := match V with
  | [] => true
  | p :: r => (match bIn W p.1 p.2 with
    | true => bWs r W
    | false => false)
theorem bWs_s : ∀ {V W : List (Nat × Nat)}, bWs V W = true → ∀ {c k : Nat}, bIn V c k = true → bIn W c k = true
  | p :: r, W, h, c, k, hc => by
    unfold bWs at h
    split at h
    · next e =>
      unfold bIn at hc
      split at hc
      · next e1 =>
        have e1 := Nat.eq_of_beq_eq_true e1
        split at hc
        · next e2 =>
          rw [← e1, ← Nat.eq_of_beq_eq_true e2]
          exact e
        · split at hc
          · next e3 =>
            rw [e1, Nat.eq_of_beq_eq_true e3] at e
            exact bIn_all e k
          · exact bWs_s h hc
      · exact bWs_s h hc
    · cases h
theorem bFr_mono {V W : List (Nat × Nat)} (h : bWs V W = true) {a b : amH} (hf : bFr V a b) : bFr W a b := by
  intro c k e
  refine hf c k ?_
  cases z : bIn V c k with
  | false => rfl
  | true => rw [bWs_s h z] at e; cases e
end BCH
