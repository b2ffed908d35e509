/-! ===== runs over invariants: a method's check is sound ===== -/
section BMC
variable {n : Nat} {T : Nat → Option bD}
theorem bMvC_0 {ρ : List Nat} {up : Bool} {u v : bV} (h : bMvC up u v = 0) {w z : Value} (hu : bR n ρ u w) (hv : bR n ρ v z) : ∃ x y, w = .int x ∧ z = .int y ∧ (up = true → aOff x < aOff y) ∧ (up = false → aOff y < aOff x) := by
  unfold bMvC at h
  split at h
  · cases h
  · split at h
    · next p =>
      split at h
      · next q =>
        split at h
        · next e =>
          have e := Nat.eq_of_beq_eq_true e
          obtain ⟨x, r, rfl, g1, g2⟩ := hu
          obtain ⟨y, s, rfl, g3, g4⟩ := hv
          rw [e, g3] at g1
          cases g1
          split at h
          · split at h
            · next e2 =>
              have e2 := a_lt1 e2
              exact ⟨x, y, rfl, rfl, fun _ => by omega, fun z => by cases z⟩
            · cases h
          · split at h
            · next e2 =>
              have e2 := a_lt1 e2
              exact ⟨x, y, rfl, rfl, fun z => (by cases z), fun _ => by omega⟩
            · cases h
        · cases h
      · cases h
    · cases h
theorem bMvC_1 {ρ : List Nat} {up : Bool} {u v : bV} (h : bMvC up u v = 1) {w z : Value} (hu : bR n ρ u w) (hv : bR n ρ v z) : bOffV (some w) = bOffV (some z) := by
  have e : bVq u v = true := by
    unfold bMvC at h
    split at h
    · next e => exact e
    · split at h
      · split at h
        · split at h
          · split at h
            · split at h <;> cases h
            · split at h <;> cases h
          · cases h
        · cases h
      · cases h
  have e2 := bVq_s e
  subst e2
  have hi : bIsI u = true := by
    match u, e with
    | .inl k, _ => rfl
    | .inr (.inl q), _ => rfl
    | .inr (.inr (.inl q)), e => cases e
    | .inr (.inr (.inr q)), e => cases e
  obtain ⟨x, rfl⟩ := bIsI_s hi hu
  obtain ⟨y, rfl⟩ := bIsI_s hi hv
  rw [bR_uniq hu hv]
/-- what locals and fields are known to be -/
def bKn (n : Nat) (ρ : List Nat) (ls : bL) (F : bF) (cl : amL) (hp : amH) : Prop := (∀ k v, bGet ls k = some v → ∃ w, amGet cl k = some w ∧ bR n ρ v w) ∧ ∀ f ∈ F, ∃ w, bFld hp f.1 f.2.1 = some w ∧ bR n ρ f.2.2 w
theorem bMeC_s {ρ0 ρ1 : List Nat} (hρ : ρ0 <+: ρ1) {l0 l1 : bL} {S0 S1 : bS} {cl0 cl1 : amL} {hp0 hp1 : amH} (h0 : bKn n ρ0 l0 S0.2.1 cl0 hp0) (h1 : bKn n ρ1 l1 S1.2.1 cl1 hp1) {a b : bMe} :
    (bMeC l0 S0 l1 S1 a b = 0 → bMu cl1 hp1 b < bMu cl0 hp0 a) ∧ (bMeC l0 S0 l1 S1 a b = 1 → bMu cl1 hp1 b = bMu cl0 hp0 a) := by
  obtain ⟨ta, a⟩ := a
  obtain ⟨tb, b⟩ := b
  match ta with
  | 0 =>
    match tb with
    | 0 =>
      simp only [bMeC, bMu]
      split
      · next e1 =>
        have e1 := a_le e1
        split
        · next e2 =>
          have e2 := Nat.eq_of_beq_eq_true e2
          exact ⟨fun z => (by cases z), fun _ => by rw [e2]⟩
        · split
          · next e3 =>
            have e3 := a_lt1 e3
            refine ⟨fun _ => ?_, fun z => by cases z⟩
            unfold bM33
            omega
          · exact ⟨fun z => (by cases z), fun z => by cases z⟩
      · exact ⟨fun z => (by cases z), fun z => by cases z⟩
    | tb + 1 =>
      simp only [bMeC]
      split
      · next e1 =>
        have e1 := a_le e1
        refine ⟨fun _ => ?_, fun z => by cases z⟩
        have g1 : bMu cl0 hp0 (0, a) = min a.1 bM33 := rfl
        have g2 : bMu cl1 hp1 (tb + 1, b) ≤ 4294967296 := by
          unfold bMu
          split
          · next e => cases e
          · omega
          · omega
          · omega
          · omega
        rw [g1]
        unfold bM33
        omega
      · exact ⟨fun z => (by cases z), fun z => by cases z⟩
  | 1 =>
    match tb with
    | 1 =>
      simp only [bMeC, bMu]
      split
      · next u eu =>
        split
        · next v ev =>
          obtain ⟨w, w1, w2⟩ := h0.1 _ _ eu
          obtain ⟨z, z1, z2⟩ := h1.1 _ _ ev
          rw [w1, z1]
          refine ⟨fun e => ?_, fun e => ?_⟩
          · obtain ⟨x, y, rfl, rfl, g, -⟩ := bMvC_0 e (bR_mono hρ w2) z2
            have g := g rfl
            have := bOff_le y
            simp only [bOffV]
            omega
          · rw [bMvC_1 e (bR_mono hρ w2) z2]
        · exact ⟨fun z => (by cases z), fun z => by cases z⟩
      · exact ⟨fun z => (by cases z), fun z => by cases z⟩
    | 0 => exact ⟨fun z => (by cases z), fun z => by cases z⟩
    | tb + 2 => exact ⟨fun z => (by cases z), fun z => by cases z⟩
  | 2 =>
    match tb with
    | 2 =>
      simp only [bMeC, bMu]
      split
      · next u eu =>
        split
        · next v ev =>
          obtain ⟨w, w1, w2⟩ := h0.1 _ _ eu
          obtain ⟨z, z1, z2⟩ := h1.1 _ _ ev
          rw [w1, z1]
          refine ⟨fun e => ?_, fun e => ?_⟩
          · obtain ⟨x, y, rfl, rfl, -, g⟩ := bMvC_0 e (bR_mono hρ w2) z2
            have g := g rfl
            have := bOff_le x
            simp only [bOffV]
            omega
          · rw [bMvC_1 e (bR_mono hρ w2) z2]
        · exact ⟨fun z => (by cases z), fun z => by cases z⟩
      · exact ⟨fun z => (by cases z), fun z => by cases z⟩
    | 0 => exact ⟨fun z => (by cases z), fun z => by cases z⟩
    | 1 => exact ⟨fun z => (by cases z), fun z => by cases z⟩
    | tb + 3 => exact ⟨fun z => (by cases z), fun z => by cases z⟩
  | 3 =>
    match tb with
    | 3 =>
      simp only [bMeC, bMu]
      split
      · next u eu =>
        split
        · next v ev =>
          obtain ⟨w, w1, w2⟩ := h0.2 _ (bFget_s eu)
          obtain ⟨z, z1, z2⟩ := h1.2 _ (bFget_s ev)
          dsimp only at w1 z1
          rw [w1, z1]
          refine ⟨fun e => ?_, fun e => ?_⟩
          · obtain ⟨x, y, rfl, rfl, g, -⟩ := bMvC_0 e (bR_mono hρ w2) z2
            have g := g rfl
            have := bOff_le y
            simp only [bOffV]
            omega
          · rw [bMvC_1 e (bR_mono hρ w2) z2]
        · exact ⟨fun z => (by cases z), fun z => by cases z⟩
      · exact ⟨fun z => (by cases z), fun z => by cases z⟩
    | 0 => exact ⟨fun z => (by cases z), fun z => by cases z⟩
    | 1 => exact ⟨fun z => (by cases z), fun z => by cases z⟩
    | 2 => exact ⟨fun z => (by cases z), fun z => by cases z⟩
    | tb + 4 => exact ⟨fun z => (by cases z), fun z => by cases z⟩
  | 4 =>
    match tb with
    | 4 =>
      simp only [bMeC, bMu]
      split
      · next u eu =>
        split
        · next v ev =>
          obtain ⟨w, w1, w2⟩ := h0.2 _ (bFget_s eu)
          obtain ⟨z, z1, z2⟩ := h1.2 _ (bFget_s ev)
          dsimp only at w1 z1
          rw [w1, z1]
          refine ⟨fun e => ?_, fun e => ?_⟩
          · obtain ⟨x, y, rfl, rfl, -, g⟩ := bMvC_0 e (bR_mono hρ w2) z2
            have g := g rfl
            have := bOff_le x
            simp only [bOffV]
            omega
          · rw [bMvC_1 e (bR_mono hρ w2) z2]
        · exact ⟨fun z => (by cases z), fun z => by cases z⟩
      · exact ⟨fun z => (by cases z), fun z => by cases z⟩
    | 0 => exact ⟨fun z => (by cases z), fun z => by cases z⟩
    | 1 => exact ⟨fun z => (by cases z), fun z => by cases z⟩
    | 2 => exact ⟨fun z => (by cases z), fun z => by cases z⟩
    | 3 => exact ⟨fun z => (by cases z), fun z => by cases z⟩
    | tb + 5 => exact ⟨fun z => (by cases z), fun z => by cases z⟩
  | ta + 5 => exact ⟨fun z => (by cases z), fun z => by cases z⟩
theorem bMeL_s {ρ0 ρ1 : List Nat} (hρ : ρ0 <+: ρ1) {l0 l1 : bL} {S0 S1 : bS} {cl0 cl1 : amL} {hp0 hp1 : amH} (h0 : bKn n ρ0 l0 S0.2.1 cl0 hp0) (h1 : bKn n ρ1 l1 S1.2.1 cl1 hp1) :
    ∀ {as bs : List bMe}, bMeL l0 S0 l1 S1 as bs = true → bLex (bs.map (bMu cl1 hp1)) (as.map (bMu cl0 hp0)) ∧ bs.length = as.length
  | a :: r, b :: s, h => by
    obtain ⟨g0, g1⟩ := bMeC_s hρ h0 h1 (a := a) (b := b)
    unfold bMeL at h
    split at h
    · next e =>
      have h := Nat.eq_of_beq_eq_true h
      exact ⟨Or.inl (g0 e), by rw [List.length_cons, List.length_cons, h]⟩
    · next e =>
      obtain ⟨k1, k2⟩ := bMeL_s hρ h0 h1 h
      exact ⟨Or.inr ⟨g1 e, k1⟩, by rw [List.length_cons, List.length_cons, k2]⟩
    · cases h
  | [], _, h => by unfold bMeL at h; cases h
  | _ :: _, [], h => by unfold bMeL at h; cases h
/-! arriving at a cut -/
def bArL (E : bE) (ls : bL) (k : Nat) : List (Option bY) → Bool
  | [] => true
  | none :: r => bArL E ls (Nat.add k 1) r
  | some y :: r => (match bGet ls k with
    | some v => (match bLe E v y with
      | true => bArL E ls (Nat.add k 1) r
      | false => false)
    | none => false)
theorem bArL_s {ρ : List Nat} {E : bE} (hE : bRE ρ E) {ls : bL} {cl : amL} (hl : bRl n ρ ls cl) : ∀ {ys : List (Option bY)} {k : Nat}, bArL E ls k ys = true → ∀ j y, lAt ys j = some (some y) → ∃ w, amGet cl (k + j) = some w ∧ bYr n y w
  | [], k, _, j, y, e => by cases e
  | none :: r, k, h, j, y, e => by
    match j, e with
    | 0, e => cases e
    | j + 1, e =>
      have := bArL_s hE hl (ys := r) (k := k + 1) h j y e
      rwa [show k + 1 + j = k + (j + 1) by omega] at this
  | some z :: r, k, h, j, y, e => by
    unfold bArL at h
    split at h
    · next v ev =>
      split at h
      · next e1 =>
        match j, e with
        | 0, e =>
          cases e
          obtain ⟨w, w1, w2⟩ := hl.1 _ _ ev
          exact ⟨w, w1, bLe_s hE e1 w2⟩
        | j + 1, e =>
          have := bArL_s hE hl (ys := r) (k := k + 1) h j y e
          rwa [show k + 1 + j = k + (j + 1) by omega] at this
      · cases h
    · cases h
def bRlL (ls : bL) (S : bS) : List bRl2 → Bool
  | [] => true
  | r :: rs => (match bPlV ls S.2.1 r.1 with
    | some u => (match bPlV ls S.2.1 r.2.2 with
      | some v => (match bIsI u with
        | true => (match bIsI v with
          | true => (match bRlC S (bShN u r.2.1) v with
            | true => bRlL ls S rs
            | false => false)
          | false => false)
        | false => false)
      | none => false)
    | none => false)
theorem bRlL_s {ρ : List Nat} {ls : bL} {S : bS} {cl : amL} {hp : amH} (hl : bRl n ρ ls cl) (hS : bRS n ρ S hp) : ∀ {rs : List bRl2}, bRlL ls S rs = true → ∀ r ∈ rs, ∃ x y : Int32, bPlC cl hp r.1 = some (.int x) ∧ bPlC cl hp r.2.2 = some (.int y) ∧ aOff x + r.2.1 ≤ aOff y
  | r :: rs, h, z, hz => by
    unfold bRlL at h
    split at h
    · next u eu =>
      split at h
      · next v ev =>
        split at h
        · next iu =>
          split at h
          · next iv =>
            split at h
            · next e =>
              cases hz with
              | head =>
                obtain ⟨w, w1, w2⟩ := bPl_s hl.1 hS.2.1 eu
                obtain ⟨w', w3, w4⟩ := bPl_s hl.1 hS.2.1 ev
                obtain ⟨x, rfl⟩ := bIsI_s iu w2
                obtain ⟨y, rfl⟩ := bIsI_s iv w4
                have := bRlC_s hS e (bShN_s (bNum_s w2)) (bNum_s w4)
                exact ⟨x, y, w1, w3, by omega⟩
              | tail _ hz => exact bRlL_s hl hS h z hz
            · cases h
          · cases h
        · cases h
      · cases h
    · cases h
/-- is what is known enough for the cut c -/
def bArr (T : Nat → Option bD) (n : Nat) (src : Option (List bMe × bL × bS)) (c : bCu) : bL → List bV → bS → Bool := fun ls st S => match st with
  | _ :: _ => false
  | [] => (match bArL S.1 ls 0 c.2.1 with
    | true => (match lAll (bFaLe T n S) c.2.2.1 with
      | true => (match bRlL ls S c.2.2.2.1 with
        | true => (match src with
          | none => true
          | some z => bMeL z.2.1 z.2.2 ls S z.1 c.2.2.2.2)
        | false => false)
      | false => false)
    | false => false)
theorem bArr_s {ρ : List Nat} {src : Option (List bMe × bL × bS)} {c : bCu} {ls : bL} {st : List bV} {S : bS} {cl : amL} {cs : List Value} {hp : amH} (h : bArr T n src c ls st S = true) (hr : bRel n T ρ ls st S cl cs hp) :
    cs = [] ∧ bCuR n c cl hp ∧ ∀ z, src = some z → bMeL z.2.1 z.2.2 ls S z.1 c.2.2.2.2 = true := by
  unfold bArr at h
  split at h
  · cases h
  · split at h
    · next e1 =>
      split at h
      · next e2 =>
        split at h
        · next e3 =>
          refine ⟨bRs_nil hr.2.1, ⟨hr.1.2, fun k y e => ?_, bFaAll_s hr.2.2.1 hr.2.2.2 e2, bRlL_s hr.1 hr.2.2.1 e3⟩, fun z e => ?_⟩
          · have := bArL_s hr.2.2.1.1 hr.1 e1 k y e
            rwa [Nat.zero_add] at this
          · subst e
            exact h
        · cases h
      · cases h
    · cases h
def bFiC (C : List bCu) (pc : Nat) : Option bCu := match C with
  | [] => none
  | c :: r => (match Nat.beq c.1 pc with
    | true => some c
    | false => bFiC r pc)
theorem bFiC_s : ∀ {C : List bCu} {pc : Nat} {c : bCu}, bFiC C pc = some c → c ∈ C ∧ c.1 = pc
  | d :: r, pc, c, h => by
    unfold bFiC at h
    split at h
    · next e => cases h; exact ⟨List.mem_cons_self, Nat.eq_of_beq_eq_true e⟩
    · exact ⟨List.mem_cons_of_mem _ (bFiC_s h).1, (bFiC_s h).2⟩
def bArA (T : Nat → Option bD) (n : Nat) (C : List bCu) (src : Option (List bMe × bL × bS)) : bAr := fun pc => match bFiC C pc with
  | some c => some (bArr T n src c)
  | none => none
/-- the pcs rise -/
def bUp : Nat → amP → Bool
  | _, [] => true
  | k, q :: r => (match Nat.ble k q.1 with
    | true => bUp (Nat.add q.1 1) r
    | false => false)
theorem bUp_lt : ∀ {cs : amP} {k : Nat}, bUp k cs = true → ∀ q ∈ cs, k ≤ q.1
  | p :: r, k, h, q, hq => by
    unfold bUp at h
    split at h
    · next e =>
      have e := a_le e
      cases hq with
      | head => exact e
      | tail _ hq => have := bUp_lt h q hq; simp only [Nat.add_eq] at this; omega
    · cases h
theorem bUp_seek : ∀ {cs ds : amP} {k pc : Nat} {q : Nat × amIn1} {r : amP}, bUp k cs = true → ds <:+ cs → ds = q :: r → q.1 = pc → amSeek cs pc = ds
  | [], ds, k, pc, q, r, _, h1, h2, _ => by subst h2; exact absurd (List.suffix_nil.mp h1) (by simp)
  | p :: cs, ds, k, pc, q, r, h, h1, h2, h3 => by
    have hup := h
    unfold bUp at h
    split at h
    · next e =>
      rcases List.suffix_cons_iff.mp h1 with h4 | h4
      · rw [h4] at h2 ⊢
        cases h2
        unfold amSeek
        rw [List.dropWhile_cons_of_neg (by simp [h3])]
      · have hq : q ∈ cs := h4.subset (by rw [h2]; exact List.mem_cons_self)
        have := bUp_lt h q hq
        simp only [Nat.add_eq] at this
        have hne : (p.1 != pc) = true := by simp; omega
        have ih := bUp_seek h h4 h2 h3
        unfold amSeek at ih ⊢
        rw [List.dropWhile_cons_of_pos (p := fun q : Nat × amIn1 => q.1 != pc) hne]
        exact ih
    · cases h
theorem bUp_next {M : amM} {cs : amP} {k pc : Nat} (h : bUp k M.1 = true) (hc : cs <:+ M.1) : amNext M cs pc = amSeek M.1 pc := by
  unfold amNext
  split
  · next q r =>
    split
    · next e => exact (bUp_seek h hc rfl e).symm
    · rfl
  · rfl
end BMC
/-- what holds at a run's end -/
def bKs (T : Nat → Option bD) (n : Nat) (s : bSp) : bK := fun x S => match x with
  | .inl v => s.2.2.2.2.2.any (fun c => match v with
    | none => (match c.1 with
      | none => lAll (bFaLe T n S) c.2
      | some _ => false)
    | some u => (match c.1 with
      | some y => (match bLe S.1 u y with
        | true => lAll (bFaLe T n S) c.2
        | false => false)
      | none => false))
  | .inr E => lHas s.2.2.2.2.1 E
theorem bKs_s {T : Nat → Option bD} {n : Nat} {s : bSp} {x : Option bV ⊕ Nat} {S : bS} {ρ : List Nat} {y : Option Value ⊕ Nat} {hp : amH} (h : bKs T n s x S = true) (hx : bRx n ρ x y) (hS : bRS n ρ S hp) (hH : bHk n T hp) : bOut n s y hp := by
  match x, y, hx with
  | .inl v, .inl w, hx =>
    obtain ⟨c, hc, h⟩ := List.any_eq_true.mp h
    refine ⟨c, hc, ?_⟩
    match v, w, hx with
    | none, none, _ =>
      dsimp only at h
      split at h
      · next e => rw [e]; exact ⟨trivial, bFaAll_s hS hH h⟩
      · cases h
    | some u, some w, hx =>
      dsimp only at h
      split at h
      · next y e =>
        split at h
        · next e2 => rw [e]; exact ⟨bLe_s hS.1 e2 hx, bFaAll_s hS hH h⟩
        · cases h
      · cases h
  | .inr E, .inr E', hx =>
    have hx : E = E' := hx
    subst hx
    exact lHas_s h
/-- arguments as they are at first -/
def bArg (E : bE) : List bY → List bV × bE
  | [] => ([], E)
  | y :: r => (match bOfY E y with
    | (v, E1) => (match bArg E1 r with
      | (vs, E') => (v :: vs, E')))
theorem bArg_s {n : Nat} : ∀ {ys : List bY} {ws : List Value} {ρ : List Nat} {E : bE}, bRE ρ E → bArgs n ys ws → ∃ ρ', ρ <+: ρ' ∧ bRE ρ' (bArg E ys).2 ∧ bRs n ρ' (bArg E ys).1 ws
  | [], [], ρ, E, hE, _ => ⟨ρ, List.prefix_refl _, hE, trivial⟩
  | y :: ys, w :: ws, ρ, E, hE, h => by
    obtain ⟨ρ1, g1, g2, g3⟩ := bOfY_s (n := n) hE h.1
    obtain ⟨ρ', h1, h2, h3⟩ := bArg_s (ys := ys) (ws := ws) g2 h.2
    exact ⟨ρ', g1.trans h1, h2, bR_mono h1 g3, h3⟩
/-- a method's check -/
def bChk (G : Nat → Option amM) (SP : Nat → List bSp) (T : Nat → Option bD) (n : Nat) (Wd : List (Nat × Nat)) (k : Nat) (s : bSp) (C : List bCu) (f : Nat) : Bool := match G k with
  | none => false
  | some N => ((bUp 0 N.1 && bWs Wd s.2.2.2.1) && (match bArg [] s.1 with
    | (av, E) => (match bAddF E [] s.2.1 with
      | (E', F) => bRun G SP T n Wd s.2.2.2.1 f s.2.2.1 N (bArA T n C none) N.1 0 (bInit N.2.1 av) [] (E', F, [], []) (bKs T n s)))) &&
    lAll (fun c => match bSta c with
      | some z => bRun G SP T n Wd s.2.2.2.1 f s.2.2.1 N (bArA T n C (some (c.2.2.2.2, z.1, z.2))) (aSeek N.1 c.1) c.1 z.1 [] z.2 (bKs T n s)
      | none => false) C
theorem bChk_s {G : Nat → Option amM} {SP : Nat → List bSp} {T : Nat → Option bD} {n : Nat} {Wd : List (Nat × Nat)} {P : amH → Prop} (hn : n ≤ 999999) (hSP : ∀ k s, s ∈ SP k → bSem G P n T k s) (hPd : ∀ hp hp1, bFr Wd hp hp1 → P hp → P hp1) {k : Nat} {s : bSp} {C : List bCu} {f : Nat} (h : bChk G SP T n Wd k s C f = true) : bSem G P n T k s := by
  unfold bChk at h
  split at h
  · cases h
  · next N hN =>
    simp only [Bool.and_eq_true] at h
    obtain ⟨⟨⟨hu, hW⟩, he⟩, hc⟩ := h
    have key : ∀ (μ : Nat) (c : bCu) (cl : amL) (hp : amH), c ∈ C → bEnc (c.2.2.2.2.map (bMu cl hp)) = μ → bCuR n c cl hp → bHk n T hp → P hp →
        bWp G s.2.2.1 N (amSeek N.1 c.1) c.1 cl [] hp (fun y hp1 => bHk n T hp1 ∧ P hp1 ∧ bFr s.2.2.2.1 hp hp1 ∧ bOut n s y hp1) := by
      intro μ
      induction μ using Nat.strongRecOn with
      | ind μ ih =>
        intro c cl hp hcC hμ hcr hH hP
        have h1 := lAll_m hc c hcC
        split at h1
        · next z ez =>
          obtain ⟨ρ, hr⟩ := bSta_s (T := T) (ls := z.1) (S := z.2) ez hcr hH
          rw [aSeek_eq] at h1
          refine bRun_s hn hSP hPd hW _ _ _ _ _ _ _ _ _ _ h1 (List.dropWhile_suffix _) ρ cl [] hp _ hr hP ?_ ?_
          · intro x S1 ρ1 y hp1 k1 k2 k3 k4 k5 k6 k7
            exact ⟨k5, k6, k7, bKs_s k1 k2 k3 k5⟩
          · intro pc1 chk ls1 st1 S1 ρ1 cl1 cst1 hp1 e1 e2 e3 e4 e5 e6 cs0 e7
            unfold bArA at e1
            split at e1
            · next c1 ec1 =>
              cases e1
              obtain ⟨m1, m2⟩ := bFiC_s ec1
              obtain ⟨g1, g2, g3⟩ := bArr_s e2 e3
              subst g1
              rw [bUp_next hu e7, ← m2]
              have g4 := bMeL_s e4 ⟨hr.1.1, hr.2.2.1.2.1⟩ ⟨e3.1.1, e3.2.2.1.2.1⟩ (g3 _ rfl)
              have g5 := bEnc_lex g4.1 (by rw [List.length_map, List.length_map, g4.2]) (fun m hm => by obtain ⟨q, -, rfl⟩ := List.mem_map.mp hm; exact bMu_le _ _ _) (fun m hm => by obtain ⟨q, -, rfl⟩ := List.mem_map.mp hm; exact bMu_le _ _ _)
              rw [hμ] at g5
              exact bWp_mono (ih _ g5 c1 cl1 hp1 m1 rfl g2 e3.2.2.2 e5) (fun y hp2 k => ⟨k.1, k.2.1, e6.trans k.2.2.1, k.2.2.2⟩)
            · cases e1
        · cases h1
    refine ⟨N, hN, fun av hp hH hP ha hf => ?_⟩
    obtain ⟨ρ1, -, g2, g3⟩ := bArg_s (n := n) (ρ := []) (E := []) ⟨rfl, fun i a b e => by cases e⟩ ha
    obtain ⟨ρ2, k1, k2, k3⟩ := bAddF_s (n := n) (F := []) (hp := hp) g2 (fun f hf => by cases hf) hf
    have hS0 : bRS n ρ2 ((bAddF (bArg [] s.1).2 [] s.2.1).1, (bAddF (bArg [] s.1).2 [] s.2.1).2, [], []) hp := by
      refine ⟨k2, k3, ?_, ?_⟩
      · intro r hr
        simp at hr
      · intro m hm
        simp at hm
    refine bRun_s hn hSP hPd hW _ _ _ _ _ _ _ _ _ _ he (List.suffix_refl _) ρ2 _ [] hp _ ⟨bInit_l (bRs_mono k1 g3), trivial, hS0, hH⟩ hP ?_ ?_
    · intro x S1 ρ3 y hp1 k1 k2 k3 k4 k5 k6 k7
      exact ⟨k5, k6, k7, bKs_s k1 k2 k3 k5⟩
    · intro pc1 chk ls1 st1 S1 ρ3 cl1 cst1 hp1 e1 e2 e3 e4 e5 e6 cs0 e7
      unfold bArA at e1
      split at e1
      · next c1 ec1 =>
        cases e1
        obtain ⟨m1, m2⟩ := bFiC_s ec1
        obtain ⟨g1, g2, g3⟩ := bArr_s e2 e3
        subst g1
        rw [bUp_next hu e7, ← m2]
        exact bWp_mono (key _ c1 cl1 hp1 m1 rfl g2 e3.2.2.2 e5) (fun y hp2 k => ⟨k.1, k.2.1, e6.trans k.2.2.1, k.2.2.2⟩)
      · cases e1
