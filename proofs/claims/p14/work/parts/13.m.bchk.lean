/-! ##### 13.m.bchk ##### -/
section
/-! ===== runs over invariants: a method's check is sound ===== -/
section BMC
variable {n : Nat} {T : Nat → Option bD}
theorem bMvC_0 {ρ : List Nat} {up : Bool} {u v : bV} (h : bMvC up u v = 0) {w z : Value} (hu : bR n ρ u w) (hv : bR n ρ v z) : ∃ x y, w = .int x ∧ z = .int y ∧ (up = true → aOff x < aOff y) ∧ (up = false → aOff y < aOff x) := by
  unfold bMvC at h
  split at h
  · cases h
  · split at h
    · next p =>
      split at h
      · next q =>
        split at h
        · next e =>
          have e := Nat.eq_of_beq_eq_true e
          obtain ⟨x, r, rfl, g1, g2⟩ := hu
          obtain ⟨y, s, rfl, g3, g4⟩ := hv
          rw [e, g3] at g1
          cases g1
          split at h
          · split at h
            · next e2 =>
              have e2 := a_lt1 e2
              exact ⟨x, y, rfl, rfl, fun _ => by omega, fun z => by cases z⟩
            · cases h
          · split at h
            · next e2 =>
              have e2 := a_lt1 e2
              exact ⟨x, y, rfl, rfl, fun z => (by cases z), fun _ => by omega⟩
            · cases h
        · cases h
      · cases h
    · cases h
theorem bMvC_1 {ρ : List Nat} {up : Bool} {u v : bV} (h : bMvC up u v = 1) {w z : Value} (hu : bR n ρ u w) (hv : bR n ρ v z) : bOffV (some w) = bOffV (some z) := by
  have e : bVq u v = true := by
    unfold bMvC at h
    split at h
    · next e => exact e
    · split at h
      · split at h
        · split at h
          · split at h
            · split at h <;> cases h
            · split at h <;> cases h
          · cases h
        · cases h
      · cases h
  have e2 := bVq_s e
  subst e2
  have hi : bIsI u = true := by
    match u, e with
    | .inl k, _ => rfl
    | .inr (.inl q), _ => rfl
    | .inr (.inr (.inl q)), e => cases e
    | .inr (.inr (.inr q)), e => cases e
  obtain ⟨x, rfl⟩ := bIsI_s hi hu
  obtain ⟨y, rfl⟩ := bIsI_s hi hv
  rw [bR_uniq hu hv]
/-- what locals and fields are known to be -/
noncomputable def bKn (n : Nat) (ρ : List Nat) (ls : bL) (F : bF) (cl : amL) (hp : amH) : Prop := (∀ k v, bGet ls k = some v → ∃ w, amGet cl k = some w ∧ bR n ρ v w) ∧ ∀ f ∈ F, ∃ w, bFld hp f.1 f.2.1 = some w ∧ bR n ρ f.2.2 w
theorem bMeC_s {ρ0 ρ1 : List Nat} (hρ : ρ0 <+: ρ1) {l0 l1 : bL} {S0 S1 : bS} {cl0 cl1 : amL} {hp0 hp1 : amH} (h0 : bKn n ρ0 l0 S0.2.1 cl0 hp0) (h1 : bKn n ρ1 l1 S1.2.1 cl1 hp1) {a b : bMe} :
    (bMeC l0 S0 l1 S1 a b = 0 → bMu cl1 hp1 b < bMu cl0 hp0 a) ∧ (bMeC l0 S0 l1 S1 a b = 1 → bMu cl1 hp1 b = bMu cl0 hp0 a) := by
  obtain ⟨ta, a⟩ := a
  obtain ⟨tb, b⟩ := b
  match ta with
  | 0 =>
    match tb with
    | 0 =>
      simp only [bMeC, bMu]
      split
      · next e1 =>
        have e1 := a_le e1
        split
        · next e2 =>
          have e2 := Nat.eq_of_beq_eq_true e2
          exact ⟨fun z => (by cases z), fun _ => by rw [e2]⟩
        · split
          · next e3 =>
            have e3 := a_lt1 e3
            refine ⟨fun _ => ?_, fun z => by cases z⟩
            unfold bM33
            omega
          · exact ⟨fun z => (by cases z), fun z => by cases z⟩
      · exact ⟨fun z => (by cases z), fun z => by cases z⟩
    | tb + 1 =>
      simp only [bMeC]
      split
      · next e1 =>
        have e1 := a_le e1
        refine ⟨fun _ => ?_, fun z => by cases z⟩
        have g1 : bMu cl0 hp0 (0, a) = min a.1 bM33 := rfl
        have g2 : bMu cl1 hp1 (tb + 1, b) ≤ 4294967296 := by
          unfold bMu
          split
          · next e => cases e
          · omega
          · omega
          · omega
          · omega
        rw [g1]
        unfold bM33
        omega
      · exact ⟨fun z => (by cases z), fun z => by cases z⟩
  | 1 =>
    match tb with
    | 1 =>
      simp only [bMeC, bMu]
      split
      · next u eu =>
        split
        · next v ev =>
          obtain ⟨w, w1, w2⟩ := h0.1 _ _ eu
          obtain ⟨z, z1, z2⟩ := h1.1 _ _ ev
          rw [w1, z1]
          refine ⟨fun e => ?_, fun e => ?_⟩
          · obtain ⟨x, y, rfl, rfl, g, -⟩ := bMvC_0 e (bR_mono hρ w2) z2
            have g := g rfl
            have := bOff_le y
            simp only [bOffV]
            omega
          · rw [bMvC_1 e (bR_mono hρ w2) z2]
        · exact ⟨fun z => (by cases z), fun z => by cases z⟩
      · exact ⟨fun z => (by cases z), fun z => by cases z⟩
    | 0 => exact ⟨fun z => (by cases z), fun z => by cases z⟩
    | tb + 2 => exact ⟨fun z => (by cases z), fun z => by cases z⟩
  | 2 =>
    match tb with
    | 2 =>
      simp only [bMeC, bMu]
      split
      · next u eu =>
        split
        · next v ev =>
          obtain ⟨w, w1, w2⟩ := h0.1 _ _ eu
          obtain ⟨z, z1, z2⟩ := h1.1 _ _ ev
          rw [w1, z1]
          refine ⟨fun e => ?_, fun e => ?_⟩
          · obtain ⟨x, y, rfl, rfl, -, g⟩ := bMvC_0 e (bR_mono hρ w2) z2
            have g := g rfl
            have := bOff_le x
            simp only [bOffV]
            omega
          · rw [bMvC_1 e (bR_mono hρ w2) z2]
        · exact ⟨fun z => (by cases z), fun z => by cases z⟩
      · exact ⟨fun z => (by cases z), fun z => by cases z⟩
    | 0 => exact ⟨fun z => (by cases z), fun z => by cases z⟩
    | 1 => exact ⟨fun z => (by cases z), fun z => by cases z⟩
    | tb + 3 => exact ⟨fun z => (by cases z), fun z => by cases z⟩
  | 3 =>
    match tb with
    | 3 =>
      simp only [bMeC, bMu]
      split
      · next u eu =>
        split
        · next v ev =>
          obtain ⟨w, w1, w2⟩ := h0.2 _ (bFget_s eu)
          obtain ⟨z, z1, z2⟩ := h1.2 _ (bFget_s ev)
          dsimp only at w1 z1
          rw [w1, z1]
          refine ⟨fun e => ?_, fun e => ?_⟩
          · obtain ⟨x, y, rfl, rfl, g, -⟩ := bMvC_0 e (bR_mono hρ w2) z2
            have g := g rfl
            have := bOff_le y
            simp only [bOffV]
            omega
          · rw [bMvC_1 e (bR_mono hρ w2) z2]
        · exact ⟨fun z => (by cases z), fun z => by cases z⟩
      · exact ⟨fun z => (by cases z), fun z => by cases z⟩
    | 0 => exact ⟨fun z => (by cases z), fun z => by cases z⟩
    | 1 => exact ⟨fun z => (by cases z), fun z => by cases z⟩
    | 2 => exact ⟨fun z => (by cases z), fun z => by cases z⟩
    | tb + 4 => exact ⟨fun z => (by cases z), fun z => by cases z⟩
  | 4 =>
    match tb with
    | 4 =>
      simp only [bMeC, bMu]
      split
      · next u eu =>
        split
        · next v ev =>
          obtain ⟨w, w1, w2⟩ := h0.2 _ (bFget_s eu)
          obtain ⟨z, z1, z2⟩ := h1.2 _ (bFget_s ev)
          dsimp only at w1 z1
          rw [w1, z1]
          refine ⟨fun e => ?_, fun e => ?_⟩
          · obtain ⟨x, y, rfl, rfl, -, g⟩ := bMvC_0 e (bR_mono hρ w2) z2
            have g := g rfl
            have := bOff_le x
            simp only [bOffV]
            omega
          · rw [bMvC_1 e (bR_mono hρ w2) z2]
        · exact ⟨fun z => (by cases z), fun z => by cases z⟩
      · exact ⟨fun z => (by cases z), fun z => by cases z⟩
    | 0 => exact ⟨fun z => (by cases z), fun z => by cases z⟩
    | 1 => exact ⟨fun z => (by cases z), fun z => by cases z⟩
    | 2 => exact ⟨fun z => (by cases z), fun z => by cases z⟩
    | 3 => exact ⟨fun z => (by cases z), fun z => by cases z⟩
    | tb + 5 => exact ⟨fun z => (by cases z), fun z => by cases z⟩
  | ta + 5 => exact ⟨fun z => (by cases z), fun z => by cases z⟩
theorem bMeL_s {ρ0 ρ1 : List Nat} (hρ : ρ0 <+: ρ1) {l0 l1 : bL} {S0 S1 : bS} {cl0 cl1 : amL} {hp0 hp1 : amH} (h0 : bKn n ρ0 l0 S0.2.1 cl0 hp0) (h1 : bKn n ρ1 l1 S1.2.1 cl1 hp1) :
    ∀ {as bs : List bMe}, bMeL l0 S0 l1 S1 as bs = true → bLex (bs.map (bMu cl1 hp1)) (as.map (bMu cl0 hp0)) ∧ bs.length = as.length
  | a :: r, b :: s, h => by
    obtain ⟨g0, g1⟩ := bMeC_s hρ h0 h1 (a := a) (b := b)
    unfold bMeL at h
    split at h
    · next e =>
      have h := Nat.eq_of_beq_eq_true h
      exact ⟨Or.inl (g0 e), by rw [List.length_cons, List.length_cons, h]⟩
    · next e =>
      obtain ⟨k1, k2⟩ := bMeL_s hρ h0 h1 h
      exact ⟨Or.inr ⟨g1 e, k1⟩, by rw [List.length_cons, List.length_cons, k2]⟩
    · cases h
  | [], _, h => by unfold bMeL at h; cases h
  | _ :: _, [], h => by unfold bMeL at h; cases h
/-! arriving at a cut -/
noncomputable def bArL (E : bE) (ls : bL) (k : Nat) : List (Option bY) → Bool
  | [] => true
  | none :: r => bArL E ls (Nat.add k 1) r
  | some y :: r => (match bGet ls k with
    | some v => (match bLe E v y with
      | true => bArL E ls (Nat.add k 1) r
      | false => false)
    | none => false)
theorem bArL_s {ρ : List Nat} {E : bE} (hE : bRE ρ E) {ls : bL} {cl : amL} (hl : bRl n ρ ls cl) : ∀ {ys : List (Option bY)} {k : Nat}, bArL E ls k ys = true → ∀ j y, lAt ys j = some (some y) → ∃ w, amGet cl (k + j) = some w ∧ bYr n y w
  | [], k, _, j, y, e => by cases e
  | none :: r, k, h, j, y, e => by
    match j, e with
    | 0, e => cases e
    | j + 1, e =>
      have := bArL_s hE hl (ys := r) (k := k + 1) h j y e
      rwa [show k + 1 + j = k + (j + 1) by omega] at this
  | some z :: r, k, h, j, y, e => by
    unfold bArL at h
    split at h
    · next v ev =>
      split at h
      · next e1 =>
        match j, e with
        | 0, e =>
          cases e
          obtain ⟨w, w1, w2⟩ := hl.1 _ _ ev
          exact ⟨w, w1, bLe_s hE e1 w2⟩
        | j + 1, e =>
          have := bArL_s hE hl (ys := r) (k := k + 1) h j y e
          rwa [show k + 1 + j = k + (j + 1) by omega] at this
      · cases h
    · cases h
noncomputable def bRlL (ls : bL) (S : bS) : List bRl2 → Bool
  | [] => true
  | r :: rs => (match bPlV ls S.2.1 r.1 with
    | some u => (match bPlV ls S.2.1 r.2.2 with
      | some v => (match bIsI u with
        | true => (match bIsI v with
          | true => (match bRlC S (bShN u r.2.1) v with
            | true => bRlL ls S rs
            | false => false)
          | false => false)
        | false => false)
      | none => false)
    | none => false)
theorem bRlL_s {ρ : List Nat} {ls : bL} {S : bS} {cl : amL} {hp : amH} (hl : bRl n ρ ls cl) (hS : bRS n ρ S hp) : ∀ {rs : List bRl2}, bRlL ls S rs = true → ∀ r ∈ rs, ∃ x y : Int32, bPlC cl hp r.1 = some (.int x) ∧ bPlC cl hp r.2.2 = some (.int y) ∧ aOff x + r.2.1 ≤ aOff y
  | r :: rs, h, z, hz => by
    unfold bRlL at h
    split at h
    · next u eu =>
      split at h
      · next v ev =>
        split at h
        · next iu =>
          split at h
          · next iv =>
            split at h
            · next e =>
              cases hz with
              | head =>
                obtain ⟨w, w1, w2⟩ := bPl_s hl.1 hS.2.1 eu
                obtain ⟨w', w3, w4⟩ := bPl_s hl.1 hS.2.1 ev
                obtain ⟨x, rfl⟩ := bIsI_s iu w2
                obtain ⟨y, rfl⟩ := bIsI_s iv w4
                have := bRlC_s hS e (bShN_s (bNum_s w2)) (bNum_s w4)
                exact ⟨x, y, w1, w3, by omega⟩
              | tail _ hz => exact bRlL_s hl hS h z hz
            · cases h
          · cases h
        · cases h
      · cases h
    · cases h
/-- is what is known enough for the cut c -/
noncomputable def bArr (T : Nat → Option bD) (n : Nat) (src : Option (List bMe × bL × bS)) (c : bCu) : bL → List bV → bS → Bool := fun ls st S => match st with
  | _ :: _ => false
  | [] => (match bArL S.1 ls 0 c.2.1 with
    | true => (match lAll (bFaLe T n S) c.2.2.1 with
      | true => (match bRlL ls S c.2.2.2.1 with
        | true => (match src with
          | none => true
          | some z => bMeL z.2.1 z.2.2 ls S z.1 c.2.2.2.2)
        | false => false)
      | false => false)
    | false => false)
theorem bArr_s {ρ : List Nat} {src : Option (List bMe × bL × bS)} {c : bCu} {ls : bL} {st : List bV} {S : bS} {cl : amL} {cs : List Value} {hp : amH} (h : bArr T n src c ls st S = true) (hr : bRel n T ρ ls st S cl cs hp) :
    cs = [] ∧ bCuR n c cl hp ∧ ∀ z, src = some z → bMeL z.2.1 z.2.2 ls S z.1 c.2.2.2.2 = true := by
  unfold bArr at h
  split at h
  · cases h
  · split at h
    · next e1 =>
      split at h
      · next e2 =>
        split at h
        · next e3 =>
          refine ⟨bRs_nil hr.2.1, ⟨hr.1.2, fun k y e => ?_, bFaAll_s hr.2.2.1 hr.2.2.2 e2, bRlL_s hr.1 hr.2.2.1 e3⟩, fun z e => ?_⟩
          · have := bArL_s hr.2.2.1.1 hr.1 e1 k y e
            rwa [Nat.zero_add] at this
          · subst e
            exact h
        · cases h
      · cases h
    · cases h
noncomputable def bFiC (C : List bCu) (pc : Nat) : Option bCu := match C with
  | [] => none
  | c :: r => (match Nat.beq c.1 pc with
    | true => some c
    | false => bFiC r pc)
theorem bFiC_s : ∀ {C : List bCu} {pc : Nat} {c : bCu}, bFiC C pc = some c → c ∈ C ∧ c.1 = pc
  | d :: r, pc, c, h => by
    unfold bFiC at h
    split at h
    · next e => cases h; exact ⟨List.mem_cons_self, Nat.eq_of_beq_eq_true e⟩
    · exact ⟨List.mem_cons_of_mem _ (bFiC_s h).1, (bFiC_s h).2⟩
noncomputable def bArA (T : Nat → Option bD) (n : Nat) (C : List bCu) (src : Option (List bMe × bL × bS)) : bAr := fun pc => match bFiC C pc with
  | some c => some (bArr T n src c)
  | none => none
/-- the pcs rise -/
noncomputable def bUp : Nat → amP → Bool
  | _, [] => true
  | k, q :: r => (match Nat.ble k q.1 with
    | true => bUp (Nat.add q.1 1) r
    | false => false)
theorem bUp_lt : ∀ {cs : amP} {k : Nat}, bUp k cs = true → ∀ q ∈ cs, k ≤ q.1
  | p :: r, k, h, q, hq => by
    unfold bUp at h
    split at h
    · next e =>
      have e := a_le e
      cases hq with
      | head => exact e
      | tail _ hq => have := bUp_lt h q hq; simp only [Nat.add_eq] at this; omega
    · cases h
theorem bUp_seek : ∀ {cs ds : amP} {k pc : Nat} {q : Nat × amIn1} {r : amP}, bUp k cs = true → ds <:+ cs → ds = q :: r → q.1 = pc → amSeek cs pc = ds
  | [], ds, k, pc, q, r, _, h1, h2, _ => by subst h2; exact absurd (List.suffix_nil.mp h1) (by simp)
  | p :: cs, ds, k, pc, q, r, h, h1, h2, h3 => by
    have hup := h
    unfold bUp at h
    split at h
    · next e =>
      rcases List.suffix_cons_iff.mp h1 with h4 | h4
      · rw [h4] at h2 ⊢
        cases h2
        unfold amSeek
        rw [List.dropWhile_cons_of_neg (by simp [h3])]
      · have hq : q ∈ cs := h4.subset (by rw [h2]; exact List.mem_cons_self)
        have := bUp_lt h q hq
        simp only [Nat.add_eq] at this
        have hne : (p.1 != pc) = true := by simp; omega
        have ih := bUp_seek h h4 h2 h3
        unfold amSeek at ih ⊢
        rw [List.dropWhile_cons_of_pos (p := fun q : Nat × amIn1 => q.1 != pc) hne]
        exact ih
    · cases h
theorem bUp_next {M : amM} {cs : amP} {k pc : Nat} (h : bUp k M.1 = true) (hc : cs <:+ M.1) : amNext M cs pc = amSeek M.1 pc := by
  unfold amNext
  split
  · next q r =>
    split
    · next e => exact (bUp_seek h hc rfl e).symm
    · rfl
  · rfl
end BMC
/-- what holds at a run's end -/
noncomputable def bKs (T : Nat → Option bD) (n : Nat) (s : bSp) : bK := fun x S => match x with
  | .inl v => s.2.2.2.2.2.any (fun c => match v with
    | none => (match c.1 with
      | none => lAll (bFaLe T n S) c.2
      | some _ => false)
    | some u => (match c.1 with
      | some y => (match bLe S.1 u y with
        | true => lAll (bFaLe T n S) c.2
        | false => false)
      | none => false))
  | .inr E => lHas s.2.2.2.2.1 E
theorem bKs_s {T : Nat → Option bD} {n : Nat} {s : bSp} {x : Option bV ⊕ Nat} {S : bS} {ρ : List Nat} {y : Option Value ⊕ Nat} {hp : amH} (h : bKs T n s x S = true) (hx : bRx n ρ x y) (hS : bRS n ρ S hp) (hH : bHk n T hp) : bOut n s y hp := by
  match x, y, hx with
  | .inl v, .inl w, hx =>
    obtain ⟨c, hc, h⟩ := List.any_eq_true.mp h
    refine ⟨c, hc, ?_⟩
    match v, w, hx with
    | none, none, _ =>
      dsimp only at h
      split at h
      · next e => rw [e]; exact ⟨trivial, bFaAll_s hS hH h⟩
      · cases h
    | some u, some w, hx =>
      dsimp only at h
      split at h
      · next y e =>
        split at h
        · next e2 => rw [e]; exact ⟨bLe_s hS.1 e2 hx, bFaAll_s hS hH h⟩
        · cases h
      · cases h
  | .inr E, .inr E', hx =>
    have hx : E = E' := hx
    subst hx
    exact lHas_s h
/-- arguments as they are at first -/
noncomputable def bArg (E : bE) : List bY → List bV × bE
  | [] => ([], E)
  | y :: r => (match bOfY E y with
    | (v, E1) => (match bArg E1 r with
      | (vs, E') => (v :: vs, E')))
theorem bArg_s {n : Nat} : ∀ {ys : List bY} {ws : List Value} {ρ : List Nat} {E : bE}, bRE ρ E → bArgs n ys ws → ∃ ρ', ρ <+: ρ' ∧ bRE ρ' (bArg E ys).2 ∧ bRs n ρ' (bArg E ys).1 ws
  | [], [], ρ, E, hE, _ => ⟨ρ, List.prefix_refl _, hE, trivial⟩
  | y :: ys, w :: ws, ρ, E, hE, h => by
    obtain ⟨ρ1, g1, g2, g3⟩ := bOfY_s (n := n) hE h.1
    obtain ⟨ρ', h1, h2, h3⟩ := bArg_s (ys := ys) (ws := ws) g2 h.2
    exact ⟨ρ', g1.trans h1, h2, bR_mono h1 g3, h3⟩
/-- a method's check -/
noncomputable def bChk (G : Nat → Option amM) (SP : Nat → List bSp) (T : Nat → Option bD) (n : Nat) (Wd : List (Nat × Nat)) (k : Nat) (s : bSp) (C : List bCu) (f : Nat) : Bool := match G k with
  | none => false
  | some N => ((bUp 0 N.1 && bWs Wd s.2.2.2.1) && (match bArg [] s.1 with
    | (av, E) => (match bAddF E [] s.2.1 with
      | (E', F) => bRun G SP T n Wd s.2.2.2.1 f s.2.2.1 N (bArA T n C none) N.1 0 (bInit N.2.1 av) [] (E', F, [], []) (bKs T n s)))) &&
    lAll (fun c => match bSta c with
      | some z => bRun G SP T n Wd s.2.2.2.1 f s.2.2.1 N (bArA T n C (some (c.2.2.2.2, z.1, z.2))) (aSeek N.1 c.1) c.1 z.1 [] z.2 (bKs T n s)
      | none => false) C
theorem bChk_s {G : Nat → Option amM} {SP : Nat → List bSp} {T : Nat → Option bD} {n : Nat} {Wd : List (Nat × Nat)} {P : amH → Prop} (hn : n ≤ 999999) (hSP : ∀ k s, s ∈ SP k → bSem G P n T k s) (hPd : ∀ hp hp1, bFr Wd hp hp1 → P hp → P hp1) {k : Nat} {s : bSp} {C : List bCu} {f : Nat} (h : bChk G SP T n Wd k s C f = true) : bSem G P n T k s := by
  unfold bChk at h
  split at h
  · cases h
  · next N hN =>
    simp only [Bool.and_eq_true] at h
    obtain ⟨⟨⟨hu, hW⟩, he⟩, hc⟩ := h
    have key : ∀ (μ : Nat) (c : bCu) (cl : amL) (hp : amH), c ∈ C → bEnc (c.2.2.2.2.map (bMu cl hp)) = μ → bCuR n c cl hp → bHk n T hp → P hp →
        bWp G s.2.2.1 N (amSeek N.1 c.1) c.1 cl [] hp (fun y hp1 => bHk n T hp1 ∧ P hp1 ∧ bFr s.2.2.2.1 hp hp1 ∧ bOut n s y hp1) := by
      intro μ
      induction μ using Nat.strongRecOn with
      | ind μ ih =>
        intro c cl hp hcC hμ hcr hH hP
        have h1 := lAll_m hc c hcC
        split at h1
        · next z ez =>
          obtain ⟨ρ, hr⟩ := bSta_s (T := T) (ls := z.1) (S := z.2) ez hcr hH
          rw [aSeek_eq] at h1
          refine bRun_s hn hSP hPd hW _ _ _ _ _ _ _ _ _ _ h1 (List.dropWhile_suffix _) ρ cl [] hp _ hr hP ?_ ?_
          · intro x S1 ρ1 y hp1 k1 k2 k3 k4 k5 k6 k7
            exact ⟨k5, k6, k7, bKs_s k1 k2 k3 k5⟩
          · intro pc1 chk ls1 st1 S1 ρ1 cl1 cst1 hp1 e1 e2 e3 e4 e5 e6 cs0 e7
            unfold bArA at e1
            split at e1
            · next c1 ec1 =>
              cases e1
              obtain ⟨m1, m2⟩ := bFiC_s ec1
              obtain ⟨g1, g2, g3⟩ := bArr_s e2 e3
              subst g1
              rw [bUp_next hu e7, ← m2]
              have g4 := bMeL_s e4 ⟨hr.1.1, hr.2.2.1.2.1⟩ ⟨e3.1.1, e3.2.2.1.2.1⟩ (g3 _ rfl)
              have g5 := bEnc_lex g4.1 (by rw [List.length_map, List.length_map, g4.2]) (fun m hm => by obtain ⟨q, -, rfl⟩ := List.mem_map.mp hm; exact bMu_le _ _ _) (fun m hm => by obtain ⟨q, -, rfl⟩ := List.mem_map.mp hm; exact bMu_le _ _ _)
              rw [hμ] at g5
              exact bWp_mono (ih _ g5 c1 cl1 hp1 m1 rfl g2 e3.2.2.2 e5) (fun y hp2 k => ⟨k.1, k.2.1, e6.trans k.2.2.1, k.2.2.2⟩)
            · cases e1
        · cases h1
    refine ⟨N, hN, fun av hp hH hP ha hf => ?_⟩
    obtain ⟨ρ1, -, g2, g3⟩ := bArg_s (n := n) (ρ := []) (E := []) ⟨rfl, fun i a b e => by cases e⟩ ha
    obtain ⟨ρ2, k1, k2, k3⟩ := bAddF_s (n := n) (F := []) (hp := hp) g2 (fun f hf => by cases hf) hf
    have hS0 : bRS n ρ2 ((bAddF (bArg [] s.1).2 [] s.2.1).1, (bAddF (bArg [] s.1).2 [] s.2.1).2, [], []) hp := by
      refine ⟨k2, k3, ?_, ?_⟩
      · intro r hr
        simp at hr
      · intro m hm
        simp at hm
    refine bRun_s hn hSP hPd hW _ _ _ _ _ _ _ _ _ _ he (List.suffix_refl _) ρ2 _ [] hp _ ⟨bInit_l (bRs_mono k1 g3), trivial, hS0, hH⟩ hP ?_ ?_
    · intro x S1 ρ3 y hp1 k1 k2 k3 k4 k5 k6 k7
      exact ⟨k5, k6, k7, bKs_s k1 k2 k3 k5⟩
    · intro pc1 chk ls1 st1 S1 ρ3 cl1 cst1 hp1 e1 e2 e3 e4 e5 e6 cs0 e7
      unfold bArA at e1
      split at e1
      · next c1 ec1 =>
        cases e1
        obtain ⟨m1, m2⟩ := bFiC_s ec1
        obtain ⟨g1, g2, g3⟩ := bArr_s e2 e3
        subst g1
        rw [bUp_next hu e7, ← m2]
        exact bWp_mono (key _ c1 cl1 hp1 m1 rfl g2 e3.2.2.2 e5) (fun y hp2 k => ⟨k.1, k.2.1, e6.trans k.2.2.1, k.2.2.2⟩)
      · cases e1
end
/-! ##### 13.n.bmany ##### -/
section
/-! ===== runs over invariants: many methods ===== -/
abbrev bEt : Type := Nat × bSp × List bCu × Nat × List (Nat × Nat)
noncomputable def bLk (B : List bEt) (k : Nat) : List bSp := match B with
  | [] => []
  | e :: r => (match Nat.beq e.1 k with
    | true => e.2.1 :: bLk r k
    | false => bLk r k)
theorem bLk_s : ∀ {B : List bEt} {k : Nat} {s : bSp}, s ∈ bLk B k → ∃ e ∈ B, e.1 = k ∧ e.2.1 = s
  | e :: r, k, s, h => by
    unfold bLk at h
    split at h
    · next e1 =>
      cases h with
      | head => exact ⟨e, List.mem_cons_self, Nat.eq_of_beq_eq_true e1, rfl⟩
      | tail _ h =>
        obtain ⟨e2, h1, h2⟩ := bLk_s h
        exact ⟨e2, List.mem_cons_of_mem _ h1, h2⟩
    · obtain ⟨e2, h1, h2⟩ := bLk_s h
      exact ⟨e2, List.mem_cons_of_mem _ h1, h2⟩
/-- no place of the one is one of the other -/
noncomputable def bDj (W Pr : List (Nat × Nat)) : Bool := match W with
  | [] => true
  | p :: r => (match bIn Pr p.1 p.2 with
    | true => false
    | false => (match Nat.beq p.2 999 && lHas (Pr.map (fun z => z.1)) p.1 with
      | true => false
      | false => bDj r Pr))
theorem bIn_mem : ∀ {W : List (Nat × Nat)} {c k : Nat}, bIn W c k = true → ∃ p ∈ W, p.1 = c ∧ (p.2 = k ∨ p.2 = 999)
  | p :: r, c, k, h => by
    unfold bIn at h
    split at h
    · next e1 =>
      split at h
      · next e2 => exact ⟨p, List.mem_cons_self, Nat.eq_of_beq_eq_true e1, Or.inl (Nat.eq_of_beq_eq_true e2)⟩
      · split at h
        · next e3 => exact ⟨p, List.mem_cons_self, Nat.eq_of_beq_eq_true e1, Or.inr (Nat.eq_of_beq_eq_true e3)⟩
        · obtain ⟨q, h1, h2⟩ := bIn_mem h
          exact ⟨q, List.mem_cons_of_mem _ h1, h2⟩
    · obtain ⟨q, h1, h2⟩ := bIn_mem h
      exact ⟨q, List.mem_cons_of_mem _ h1, h2⟩
theorem bDj_s : ∀ {W Pr : List (Nat × Nat)}, bDj W Pr = true → ∀ c k, bIn Pr c k = true → bIn W c k = false
  | [], _, _, _, _, _ => rfl
  | p :: r, Pr, h, c, k, hc => by
    unfold bDj at h
    split at h
    · cases h
    · next e =>
      split at h
      · cases h
      · next e9 =>
        have ih := bDj_s h c k hc
        unfold bIn
        split
        · next e1 =>
          have e1 := Nat.eq_of_beq_eq_true e1
          split
          · next e2 =>
            rw [e1, Nat.eq_of_beq_eq_true e2, hc] at e
            cases e
          · split
            · next e3 =>
              obtain ⟨q, h1, h2, -⟩ := bIn_mem hc
              rw [e3, e1, lHas_t (List.mem_map.mpr ⟨q, h1, h2⟩)] at e9
              cases e9
            · exact ih
        · exact ih
/-- the checks, one behind the other: each may use what was checked before -/
noncomputable def bAll2 (G : Nat → Option amM) (T : Nat → Option bD) (n : Nat) (Pr : List (Nat × Nat)) : List bEt → List bEt → Bool
  | _, [] => true
  | B, e :: r => (match bDj e.2.2.2.2 Pr with
    | true => (match bChk G (bLk B) T n e.2.2.2.2 e.1 e.2.1 e.2.2.1 e.2.2.2.1 with
      | true => bAll2 G T n Pr (e :: B) r
      | false => false)
    | false => false)
noncomputable def bSems (G : Nat → Option amM) (P : amH → Prop) (n : Nat) (T : Nat → Option bD) (B : List bEt) : Prop := ∀ e ∈ B, bSem G P n T e.1 e.2.1
theorem bAll2_s {G : Nat → Option amM} {T : Nat → Option bD} {n : Nat} {Pr : List (Nat × Nat)} {P : amH → Prop} (hn : n ≤ 999999) (hP : ∀ hp hp1 : amH, (∀ c k, bIn Pr c k = true → bFld hp1 c k = bFld hp c k) → P hp → P hp1) : ∀ {r B : List bEt}, bAll2 G T n Pr B r = true → bSems G P n T B → bSems G P n T (r.reverse ++ B)
  | [], B, _, h => h
  | e :: r, B, h, hB => by
    unfold bAll2 at h
    split at h
    · next ed =>
      split at h
      · next ec =>
        have h1 : bSem G P n T e.1 e.2.1 := bChk_s hn (fun k s hs => by
          obtain ⟨e2, g1, g2, g3⟩ := bLk_s hs
          subst g2
          subst g3
          exact hB e2 g1) (fun hp hp1 hf hp0 => hP hp hp1 (fun c k hc => hf c k (bDj_s ed c k hc)) hp0) ec
        have h2 := bAll2_s hn hP h (fun z hz => by
          cases hz with
          | head => exact h1
          | tail _ hz => exact hB z hz)
        rw [List.reverse_cons, List.append_assoc]
        exact h2
      · cases h
    · cases h
/-- a field known by cases -/
theorem bSem_split {G : Nat → Option amM} {P : amH → Prop} {n : Nat} {T : Nat → Option bD} {k : Nat} {args : List bY} {d : Nat} {W : List (Nat × Nat)} {th : List Nat} {cs : List (Option bY × List bFa)} {c f lo hi : Nat} {D : bD} (hc : c < n) (hT : T c = some D) (hD : bDy D f = some (.inl (lo, hi))) (hf : f < D.2.1) {N : amM} (hN : G k = some N)
    (h : ∀ v, lo ≤ v → v ≤ hi → bSem G P n T k (args, [(c, f, v, v)], d, W, th, cs)) : bSem G P n T k (args, [], d, W, th, cs) := by
  refine ⟨N, hN, fun av hp hH hP ha _ => ?_⟩
  obtain ⟨cc, g1, g2⟩ := bHk_at hH hc hT
  have hlt : f < cc.2.length := by rw [g2.2.1]; exact hf
  obtain ⟨y, g3, g4⟩ := g2.2.2 f _ (List.getElem?_eq_getElem hlt)
  rw [hD] at g3
  cases g3
  obtain ⟨x, hx, x1, x2⟩ := g4
  obtain ⟨N', hN', hs⟩ := h (aOff x) x1 x2
  rw [hN] at hN'
  cases hN'
  refine hs av hp hH hP ha (fun z hz => ?_)
  cases hz with
  | head =>
    refine ⟨x, ?_, Nat.le_refl _, Nat.le_refl _⟩
    unfold bFld
    rw [g1]
    dsimp only
    rw [List.getElem?_eq_getElem hlt, hx]
  | tail _ hz => cases hz
end
/-! ##### 14.a.types ##### -/
section
/-! ===== the cells behind the law's beginning, by their types ===== -/
noncomputable def bRT : List (List bD) := [
  [(10, 12, [.inr (.inr [1]), .inr (.inr [3]), .inr (.inr [8]), .inr (.inr [13]), .inr (.inr [14]), .inr (.inr [49]), .inr (.inr [52]), .inr (.inr [56]), .inr (.inr [58]), .inr (.inr [62]), .inr (.inr [65]), .inl (2147483648, 2147483675)]), (5, 8, [.inl (2147483648, 2147484248), .inl (0, 4294967295), .inl (0, 4294967295), .inr (.inr [2]), .inl (0, 4294967295), .inl (0, 4294967295), .inl (0, 4294967295), .inl (0, 4294967295)]), (34, 600, [.inl (2147483520, 2147483775)]), (0, 6, [.inl (2147483648, 2147483663), .inl (2147483648, 2147483683), .inr (.inr [4]), .inr (.inr [5]), .inr (.inr [6]), .inr (.inr [7])]), (32, 225, [.inl (0, 4294967295)]), (32, 225, [.inl (0, 4294967295)]), (32, 15, [.inl (0, 4294967295)]), (32, 35, [.inl (0, 4294967295)]), (0, 6, [.inl (2147483648, 2147483663), .inl (2147483648, 2147483683), .inr (.inr [9]), .inr (.inr [10]), .inr (.inr [11]), .inr (.inr [12])]), (32, 225, [.inl (0, 4294967295)]), (32, 225, [.inl (0, 4294967295)]), (32, 15, [.inl (0, 4294967295)]), (32, 35, [.inl (0, 4294967295)]), (7, 3, [.inl (0, 4294967295), .inl (0, 4294967295), .inl (0, 4294967295)]), (3, 4, [.inl (2147483648, 2147483658), .inr (.inr [15]), .inr (.inr [16]), .inl (2147483648, 2147483649)]), (35, 10, [.inr (.inr [16, 19, 22, 25, 28, 31, 34, 37, 40, 43, 46])])],
  [(6, 4, [.inl (2147483648, 2147483663), .inl (2147483648, 2147483683), .inr (.inr [17, 20, 23, 26, 29, 32, 35, 38, 41, 44, 47]), .inr (.inr [18, 21, 24, 27, 30, 33, 36, 39, 42, 45, 48])]), (32, 35, [.inl (0, 4294967295)]), (7, 3, [.inl (0, 4294967295), .inl (0, 4294967295), .inl (0, 4294967295)]), (6, 4, [.inl (2147483648, 2147483663), .inl (2147483648, 2147483683), .inr (.inr [17, 20, 23, 26, 29, 32, 35, 38, 41, 44, 47]), .inr (.inr [18, 21, 24, 27, 30, 33, 36, 39, 42, 45, 48])]), (32, 35, [.inl (0, 4294967295)]), (7, 3, [.inl (0, 4294967295), .inl (0, 4294967295), .inl (0, 4294967295)]), (6, 4, [.inl (2147483648, 2147483663), .inl (2147483648, 2147483683), .inr (.inr [17, 20, 23, 26, 29, 32, 35, 38, 41, 44, 47]), .inr (.inr [18, 21, 24, 27, 30, 33, 36, 39, 42, 45, 48])]), (32, 35, [.inl (0, 4294967295)]), (7, 3, [.inl (0, 4294967295), .inl (0, 4294967295), .inl (0, 4294967295)]), (6, 4, [.inl (2147483648, 2147483663), .inl (2147483648, 2147483683), .inr (.inr [17, 20, 23, 26, 29, 32, 35, 38, 41, 44, 47]), .inr (.inr [18, 21, 24, 27, 30, 33, 36, 39, 42, 45, 48])]), (32, 35, [.inl (0, 4294967295)]), (7, 3, [.inl (0, 4294967295), .inl (0, 4294967295), .inl (0, 4294967295)]), (6, 4, [.inl (2147483648, 2147483663), .inl (2147483648, 2147483683), .inr (.inr [17, 20, 23, 26, 29, 32, 35, 38, 41, 44, 47]), .inr (.inr [18, 21, 24, 27, 30, 33, 36, 39, 42, 45, 48])]), (32, 35, [.inl (0, 4294967295)]), (7, 3, [.inl (0, 4294967295), .inl (0, 4294967295), .inl (0, 4294967295)]), (6, 4, [.inl (2147483648, 2147483663), .inl (2147483648, 2147483683), .inr (.inr [17, 20, 23, 26, 29, 32, 35, 38, 41, 44, 47]), .inr (.inr [18, 21, 24, 27, 30, 33, 36, 39, 42, 45, 48])])],
  [(32, 35, [.inl (0, 4294967295)]), (7, 3, [.inl (0, 4294967295), .inl (0, 4294967295), .inl (0, 4294967295)]), (6, 4, [.inl (2147483648, 2147483663), .inl (2147483648, 2147483683), .inr (.inr [17, 20, 23, 26, 29, 32, 35, 38, 41, 44, 47]), .inr (.inr [18, 21, 24, 27, 30, 33, 36, 39, 42, 45, 48])]), (32, 35, [.inl (0, 4294967295)]), (7, 3, [.inl (0, 4294967295), .inl (0, 4294967295), .inl (0, 4294967295)]), (6, 4, [.inl (2147483648, 2147483663), .inl (2147483648, 2147483683), .inr (.inr [17, 20, 23, 26, 29, 32, 35, 38, 41, 44, 47]), .inr (.inr [18, 21, 24, 27, 30, 33, 36, 39, 42, 45, 48])]), (32, 35, [.inl (0, 4294967295)]), (7, 3, [.inl (0, 4294967295), .inl (0, 4294967295), .inl (0, 4294967295)]), (6, 4, [.inl (2147483648, 2147483663), .inl (2147483648, 2147483683), .inr (.inr [17, 20, 23, 26, 29, 32, 35, 38, 41, 44, 47]), .inr (.inr [18, 21, 24, 27, 30, 33, 36, 39, 42, 45, 48])]), (32, 35, [.inl (0, 4294967295)]), (7, 3, [.inl (0, 4294967295), .inl (0, 4294967295), .inl (0, 4294967295)]), (6, 4, [.inl (2147483648, 2147483663), .inl (2147483648, 2147483683), .inr (.inr [17, 20, 23, 26, 29, 32, 35, 38, 41, 44, 47]), .inr (.inr [18, 21, 24, 27, 30, 33, 36, 39, 42, 45, 48])]), (32, 35, [.inl (0, 4294967295)]), (7, 3, [.inl (0, 4294967295), .inl (0, 4294967295), .inl (0, 4294967295)]), (6, 4, [.inl (2147483648, 2147483663), .inl (2147483648, 2147483683), .inr (.inr [17, 20, 23, 26, 29, 32, 35, 38, 41, 44, 47]), .inr (.inr [18, 21, 24, 27, 30, 33, 36, 39, 42, 45, 48])]), (32, 35, [.inl (0, 4294967295)])],
  [(7, 3, [.inl (0, 4294967295), .inl (0, 4294967295), .inl (0, 4294967295)]), (4, 3, [.inl (2147483648, 2147483753), .inr (.inr [50]), .inr (.inr [51])]), (33, 105, [.inr (.inl 1)]), (32, 105, [.inl (0, 4294967295)]), (1, 6, [.inl (2147483648, 2147483651), .inl (0, 4294967295), .inl (0, 4294967295), .inr (.inr [53]), .inr (.inr [54]), .inr (.inr [55])]), (32, 4, [.inl (2147483648, 2147483693), .inl (2147483648, 2147483648), .inl (2147483648, 2147483663), .inl (2147483648, 2147483678), .inl (2147483648, 2147483693)]), (32, 30, [.inl (0, 4294967295)]), (33, 30, [.inr (.inl 1)]), (8, 2, [.inl (2147483648, 2147483963), .inr (.inr [57])]), (33, 315, [.inr (.inl 1)]), (9, 4, [.inl (2147483648, 2147484103), .inr (.inr [59]), .inr (.inr [60]), .inr (.inr [61])]), (32, 455, [.inl (0, 4294967295)]), (32, 455, [.inl (0, 4294967295)]), (32, 455, [.inl (0, 4294967295)]), (2, 4, [.inl (2147483648, 2147483660), .inr (.inl 1), .inr (.inr [63]), .inr (.inr [64])]), (32, 12, [.inl (0, 4294967295)])],
  [(32, 12, [.inl (0, 4294967295)]), (34, 27, [.inl (2147483520, 2147483775)]), (11, 33, [.inr (.inr [67]), .inr (.inr [68]), .inr (.inr [69]), .inr (.inr [70]), .inr (.inr [71]), .inl (2147483648, 2147483658), .inl (2147483648, 2147483649), .inl (0, 4294967295), .inr (.inr [72]), .inr (.inr [73]), .inr (.inr [74]), .inr (.inr [75]), .inl (2147483648, 2147483683), .inr (.inr [76]), .inl (2147483648, 2147483848), .inr (.inr [77]), .inr (.inr [78]), .inl (2147483648, 2147483663), .inr (.inr [79]), .inl (2147483648, 2147484048), .inr (.inr [80]), .inl (2147483648, 2147484248), .inl (0, 4294967295), .inl (0, 4294967295), .inl (0, 4294967295), .inl (0, 4294967295), .inl (2147483648, 2147484249), .inl (2147483648, 2147484249), .inl (0, 4294967295), .inl (0, 4294967295), .inr (.inr [81]), .inr (.inr [82]), .inl (2147483648, 2147483678)]), (32, 229, [.inl (0, 4294967295)]), (32, 229, [.inl (0, 4294967295)]), (32, 229, [.inl (0, 4294967295)]), (32, 229, [.inl (0, 4294967295)]), (32, 2290, [.inl (0, 4294967295)]), (32, 35, [.inl (2147483648, 2147483662)]), (32, 35, [.inl (2147483648, 2147483662)]), (32, 35, [.inl (2147483648, 2147483662)]), (32, 35, [.inl (2147483648, 2147516415)]), (32, 800, [.inl (2147483648, 2147483682)]), (32, 24, [.inl (0, 4294967295)]), (32, 15, [.inl (2147483648, 2147483662)]), (33, 400, [.inr (.inl 1)])],
  [(32, 600, [.inl (2147483648, 2147483903)]), (32, 3, [.inl (0, 4294967295)]), (32, 30, [.inl (0, 4294967295)]), (33, 1, [.inr (.inl 1)])]]
noncomputable def bPr : List (Nat × Nat) := [(67, 999), (68, 999), (69, 999), (70, 999), (71, 999), (66, 5), (66, 6)]
noncomputable def bTT (c : Nat) : Option bD := cGet bRT c
noncomputable def bL0 : List bEt := []
end
/-! ##### 14.b.class ##### -/
section
/-! ===== methods of the class, checked (1) ===== -/
noncomputable def be_0 : bEt := (76, ([.inr (.inr [1]), .inl (0, 4294967295)], [], 0, [(1, 0), (2, 999)], [], [(none, [])]), [(3, [(some (.inr (.inr [1]))), (some (.inl (0, 4294967295))), (some (.inl (2147483640, 2147483672)))], [], [], [(0, 999997, 0), (2, 2, 0)])], 3000, [(1, 0), (2, 999)])
noncomputable def be_1 : bEt := (113, ([.inr (.inr [0]), .inl (0, 4294967295), .inl (0, 4294967295), .inl (0, 4294967295), .inl (0, 4294967295), .inl (0, 4294967295)], [], 1, [(1, 0), (2, 999)], [], [((some (.inl (2147483647, 2147484248))), [])]), [], 3000, [])
noncomputable def be_2 : bEt := (114, ([.inr (.inr [0]), .inl (0, 4294967295)], [], 0, [(1, 0)], [], [((some (.inl (2147483648, 2147483649))), [])]), [], 3000, [(1, 0)])
noncomputable def be_3 : bEt := (83, ([.inr (.inr [1])], [], 1, [(1, 4), (1, 5), (1, 7)], [], [(none, [(1, 5, 2147483650, 2147483652)])]), [(5, [(some (.inr (.inr [1])))], [(1, 4, 0, 4294967295)], [], [(0, 999995, 0), (3, 1, 4)])], 3000, [(1, 4), (1, 5), (1, 7)])
noncomputable def be_4 : bEt := (82, ([.inr (.inr [1])], [], 1, [(1, 4), (1, 5)], [], [(none, [(1, 5, 2147483649, 2147483649)])]), [(5, [(some (.inr (.inr [1])))], [(1, 4, 0, 4294967295), (1, 5, 2147483649, 2147483649)], [], [(0, 999995, 0), (3, 1, 4)])], 3000, [(1, 4), (1, 5)])
noncomputable def be_5 : bEt := (81, ([.inr (.inr [1])], [], 2, [(1, 4), (1, 5), (1, 6), (1, 7)], [], [(none, [(1, 5, 2147483648, 2147483652)])]), [(0, [(some (.inr (.inr [1]))), none], [(1, 0, 2147483649, 2147484248), (1, 4, 2147483649, 2147484248)], [], [(0, 1000000, 0), (3, 1, 4)])], 3000, [(1, 4), (1, 5), (1, 6)])
noncomputable def be_6 : bEt := (84, ([.inr (.inr [1]), .inr (.inl 1000000)], [], 1, [], [], [((some (.inl (2147483648, 2147483649))), [])]), [(28, [(some (.inr (.inr [1]))), (some (.inr (.inl 1000000))), (some (.inl (2147483648, 2147483654)))], [(1, 5, 2147483649, 2147483649)], [], [(0, 999972, 0), (1, 2, 0)])], 3000, [])
noncomputable def be_7 : bEt := (1, ([.inr (.inr [8]), .inl (0, 4294967295)], [], 1, [(8, 0), (8, 1), (9, 999), (11, 999)], [], [(none, [(8, 0, 2147483651, 2147483663), (8, 1, 2147483648, 2147483648)])]), [(21, [(some (.inr (.inr [8]))), (some (.inl (0, 4294967295))), (some (.inl (2147483648, 2147483873)))], [(8, 0, 2147483651, 2147483663), (8, 1, 2147483648, 2147483648)], [], [(0, 999979, 0), (1, 2, 0)]), (45, [(some (.inr (.inr [8]))), (some (.inl (0, 4294967295))), (some (.inl (2147483648, 2147483663)))], [(8, 0, 2147483651, 2147483663), (8, 1, 2147483648, 2147483648)], [], [(0, 999955, 0), (1, 2, 0)])], 3000, [(8, 0), (8, 1), (9, 999), (11, 999)])
noncomputable def be_8 : bEt := (78, ([.inr (.inr [1]), .inr (.inr [8])], [], 3, [(1, 1), (1, 2), (1, 4), (1, 5), (1, 6), (1, 7), (8, 0), (8, 1), (9, 999), (11, 999)], [], [((some (.inl (2147483648, 2147483649))), [])]), [], 3000, [(1, 1), (1, 2)])
noncomputable def be_9 : bEt := (84, ([.inr (.inr [1]), .inr (.inl 1000001)], [], 1, [], [], [((some (.inl (2147483648, 2147483649))), [])]), [(28, [(some (.inr (.inr [1]))), (some (.inr (.inl 1000001))), (some (.inl (2147483648, 2147483656)))], [(1, 5, 2147483649, 2147483649)], [], [(0, 999972, 0), (1, 2, 0)])], 3000, [])
noncomputable def be_10 : bEt := (84, ([.inr (.inr [1]), .inr (.inl 1000002)], [], 1, [], [], [((some (.inl (2147483648, 2147483649))), [])]), [(28, [(some (.inr (.inr [1]))), (some (.inr (.inl 1000002))), (some (.inl (2147483648, 2147483654)))], [(1, 5, 2147483649, 2147483649)], [], [(0, 999972, 0), (1, 2, 0)])], 3000, [])
noncomputable def be_11 : bEt := (343, ([.inl (0, 4294967295)], [], 0, [], [], [((some (.inl (2147483648, 2147483711))), [])]), [], 3000, [])
noncomputable def be_12 : bEt := (70, ([.inl (0, 4294967295), .inl (0, 4294967295)], [], 1, [], [], [((some (.inl (2147483647, 2147483711))), [])]), [(4, [(some (.inl (0, 4294967295))), (some (.inl (0, 4294967295))), (some (.inl (0, 4294967295))), (some (.inl (2147483648, 4294967295)))], [], [], [(0, 999996, 0), (1, 3, 0)])], 3000, [])
noncomputable def be_13 : bEt := (13, ([.inr (.inr [8]), .inl (0, 4294967295)], [], 2, [], [], [((some (.inl (2147483648, 2147483649))), [])]), [], 3000, [])
noncomputable def be_14 : bEt := (14, ([.inr (.inr [8]), .inl (0, 4294967295)], [], 2, [(9, 999), (11, 999)], [], [(none, [])]), [], 3000, [(9, 999), (11, 999)])
noncomputable def be_15 : bEt := (21, ([.inr (.inr [8]), .inl (0, 4294967295)], [], 3, [(9, 999), (11, 999)], [], [((some (.inl (0, 4294967295))), [])]), [(4, [(some (.inr (.inr [8]))), (some (.inl (0, 4294967295))), (some (.inl (0, 4294967295))), (some (.inl (2147483648, 2147483663))), none], [], [], [(0, 999996, 0), (1, 3, 0)])], 3000, [])
noncomputable def be_16 : bEt := (79, ([.inr (.inr [1]), .inr (.inr [8])], [], 4, [(1, 1), (1, 2), (1, 4), (1, 5), (1, 6), (1, 7), (9, 999), (11, 999)], [], [((some (.inl (2147483648, 2147483649))), [])]), [(35, [(some (.inr (.inr [1]))), (some (.inr (.inr [8]))), (some (.inl (2147483648, 2147483649))), (some (.inl (0, 4294967295))), (some (.inl (2147483648, 2147483651)))], [(1, 5, 2147483648, 2147483652)], [], [(0, 999965, 0), (1, 4, 0)])], 3000, [(1, 1), (1, 2)])
noncomputable def be_17 : bEt := (77, ([.inr (.inr [1]), .inr (.inr [8])], [], 5, [(1, 1), (1, 2), (1, 4), (1, 5), (1, 6), (1, 7), (8, 0), (8, 1), (9, 999), (11, 999)], [], [((some (.inl (2147483648, 2147483649))), [])]), [(27, [(some (.inr (.inr [1]))), (some (.inr (.inr [8]))), (some (.inl (2147483648, 2147483649))), (some (.inl (2147483648, 2147484248)))], [], [], [(0, 999973, 0), (1, 3, 0)])], 3000, [(1, 1), (1, 2), (1, 4)])
noncomputable def be_18 : bEt := (2, ([.inr (.inr [3]), .inr (.inr [8])], [], 0, [(3, 0), (3, 1), (4, 999), (6, 999)], [], [(none, [(3, 1, 2147483648, 2147483648)])]), [], 3000, [(3, 0), (3, 1), (4, 999), (6, 999)])
noncomputable def be_19 : bEt := (92, ([.inr (.inr [13])], [], 0, [(13, 0), (13, 1), (13, 2)], [], [(none, [(13, 0, 2147483648, 2147483648), (13, 1, 2147483648, 2147483648), (13, 2, 2147483648, 2147483648)])]), [], 3000, [(13, 0), (13, 1), (13, 2)])
noncomputable def be_20 : bEt := (55, ([.inr (.inr [14])], [], 0, [(14, 0), (14, 3)], [], [(none, [(14, 0, 2147483648, 2147483648), (14, 3, 2147483648, 2147483648)])]), [], 3000, [(14, 0), (14, 3)])
noncomputable def be_21 : bEt := (19, ([.inr (.inr [3]), .inl (0, 4294967295), .inl (0, 4294967295), .inl (0, 4294967295)], [], 2, [(3, 1), (5, 999), (7, 999)], [], [(none, [(3, 1, 2147483649, 2147483683)])]), [], 3000, [(3, 1), (5, 999), (7, 999)])
noncomputable def be_22 : bEt := (18, ([.inr (.inr [3])], [], 3, [(3, 1), (5, 999), (7, 999)], [], [(none, [])]), [(7, [(some (.inr (.inr [3]))), (some (.inl (2147483648, 2147483663))), none, none], [], [], [(0, 999993, 0), (1, 1, 0), (0, 8589934591, 0), (0, 8589934591, 0)]), (19, [(some (.inr (.inr [3]))), (some (.inl (2147483648, 2147483662))), (some (.inl (2147483649, 2147483663))), none], [(3, 0, 2147483649, 2147483663)], [], [(0, 999993, 0), (1, 1, 0), (0, 999981, 0), (1, 2, 0)])], 3000, [(3, 1)])
noncomputable def be_23 : bEt := (12, ([.inr (.inr [3]), .inl (0, 4294967295)], [], 2, [], [], [((some (.inl (2147483648, 2147483649))), [])]), [], 3000, [])
noncomputable def be_24 : bEt := (11, ([.inr (.inr [3]), .inl (0, 4294967295)], [], 3, [], [], [((some (.inl (0, 4294967295))), [])]), [], 3000, [])
noncomputable def bB1 : List bEt := [be_0, be_1, be_2, be_3, be_4, be_5, be_6, be_7, be_8, be_9, be_10, be_11, be_12, be_13, be_14, be_15, be_16, be_17, be_18, be_19, be_20, be_21, be_22, be_23, be_24]
theorem bB1_ok : bAll2 amGG bTT 84 bPr bL0 bB1 = true := by decide +kernel
noncomputable def bL1 : List bEt := [be_24, be_23, be_22, be_21, be_20, be_19, be_18, be_17, be_16, be_15, be_14, be_13, be_12, be_11, be_10, be_9, be_8, be_7, be_6, be_5, be_4, be_3, be_2, be_1, be_0]
theorem bL1_eq : bB1.reverse ++ bL0 = bL1 := rfl
end
/-! ##### 14.c.class ##### -/
section
/-! ===== methods of the class, checked (2) ===== -/
noncomputable def be_25 : bEt := (58, ([.inr (.inr [49]), .inl (0, 4294967295), .inl (0, 4294967295), .inl (0, 4294967295), .inl (0, 4294967295), .inl (0, 4294967295)], [], 0, [(49, 0), (50, 999), (51, 999)], [], [(none, [(49, 0, 2147483649, 2147483753)])]), [], 3000, [(49, 0), (50, 999), (51, 999)])
noncomputable def be_26 : bEt := (57, ([.inr (.inr [49]), .inr (.inr [3])], [], 4, [(49, 0), (50, 999), (51, 999)], [], [(none, [])]), [(7, [(some (.inr (.inr [49]))), (some (.inr (.inr [3]))), (some (.inl (2147483648, 2147483683))), none, none, none, none, none, none], [], [], [(0, 999993, 0), (1, 2, 0), (0, 8589934591, 0), (0, 8589934591, 0), (0, 8589934591, 0), (0, 8589934591, 0)]), (19, [(some (.inr (.inr [49]))), (some (.inr (.inr [3]))), (some (.inl (2147483648, 2147483682))), (some (.inl (2147483649, 2147483683))), none, none, none, none, none], [(3, 1, 2147483649, 2147483683)], [], [(0, 999993, 0), (1, 2, 0), (0, 999981, 0), (1, 3, 0), (0, 8589934591, 0), (0, 8589934591, 0)]), (66, [(some (.inr (.inr [49]))), (some (.inr (.inr [3]))), (some (.inl (2147483648, 2147483682))), (some (.inl (2147483649, 2147483682))), (some (.inl (2147483648, 2147483649))), (some (.inl (0, 4294967295))), (some (.inl (2147483650, 2147483683))), none, none], [(3, 1, 2147483650, 2147483683)], [], [(0, 999993, 0), (1, 2, 0), (0, 999981, 0), (1, 3, 0), (0, 999934, 0), (1, 6, 0)])], 3000, [(49, 0)])
noncomputable def be_27 : bEt := (115, ([.inr (.inr [0])], [], 6, [(0, 11), (1, 0), (1, 1), (1, 2), (1, 4), (1, 5), (1, 6), (1, 7), (3, 0), (3, 1), (4, 999), (5, 999), (6, 999), (7, 999), (8, 0), (8, 1), (9, 999), (11, 999), (13, 0), (13, 1), (13, 2), (14, 0), (14, 3), (49, 0), (50, 999), (51, 999)], [], [((some (.inl (2147483647, 2147483683))), [(1, 0, 2147483648, 2147483648)])]), [], 3000, [(0, 11), (1, 0)])
noncomputable def be_28 : bEt := (116, ([.inr (.inr [0])], [], 0, [], [], [((some (.inl (0, 4294967295))), [])]), [], 3000, [])
noncomputable def be_29 : bEt := (117, ([.inr (.inr [0])], [], 0, [], [], [((some (.inl (0, 4294967295))), [])]), [], 3000, [])
noncomputable def be_30 : bEt := (23, ([.inr (.inr [3])], [], 2, [], [], [((some (.inl (0, 4294967295))), [])]), [(4, [(some (.inr (.inr [3]))), (some (.inl (0, 4294967295))), (some (.inl (2147483648, 2147483663)))], [], [], [(0, 999996, 0), (1, 2, 0)])], 3000, [])
noncomputable def be_31 : bEt := (118, ([.inr (.inr [0]), .inl (0, 4294967295)], [], 3, [], [0], [((some (.inl (0, 4294967295))), [])]), [], 3000, [])
noncomputable def be_32 : bEt := (119, ([.inr (.inr [0])], [], 3, [], [], [((some (.inl (2147483648, 2147483649))), [])]), [], 3000, [])
noncomputable def be_33 : bEt := (120, ([.inr (.inr [0]), .inl (0, 4294967295), .inl (0, 4294967295)], [], 2, [], [0, 1], [((some (.inl (2147483647, 2147483711))), [])]), [], 3000, [])
noncomputable def be_34 : bEt := (121, ([.inr (.inr [0]), .inl (0, 4294967295), .inl (0, 4294967295), .inl (0, 4294967295)], [], 4, [], [0, 1], [((some (.inl (0, 4294967295))), [])]), [], 3000, [])
noncomputable def be_35 : bEt := (122, ([.inr (.inr [0]), .inl (0, 4294967295), .inl (0, 4294967295)], [], 3, [], [0, 1], [((some (.inl (0, 4294967295))), [])]), [], 3000, [])
noncomputable def be_36 : bEt := (26, ([.inr (.inr [3]), .inl (0, 4294967295), .inl (0, 4294967295)], [], 1, [], [], [((some (.inl (0, 4294967295))), [])]), [(5, [(some (.inr (.inr [3]))), (some (.inl (0, 4294967295))), (some (.inl (0, 4294967295))), (some (.inl (0, 4294967295))), (some (.inl (2147483648, 2147483683)))], [], [], [(0, 999995, 0), (1, 4, 0)])], 3000, [])
noncomputable def be_37 : bEt := (123, ([.inr (.inr [0]), .inl (0, 4294967295)], [], 2, [], [1], [((some (.inl (0, 4294967295))), [])]), [], 3000, [])
noncomputable def be_38 : bEt := (24, ([.inr (.inr [3]), .inl (0, 4294967295)], [], 2, [], [], [((some (.inl (2147483647, 2147483886))), [])]), [(4, [(some (.inr (.inr [3]))), (some (.inl (0, 4294967295))), (some (.inl (0, 4294967295))), (some (.inl (2147483648, 2147483663))), none], [], [], [(0, 999996, 0), (1, 3, 0), (0, 8589934591, 0), (0, 8589934591, 0)]), (17, [(some (.inr (.inr [3]))), (some (.inl (0, 4294967295))), (some (.inl (0, 4294967295))), (some (.inl (2147483648, 2147483662))), (some (.inl (2147483649, 2147483663)))], [(3, 0, 2147483649, 2147483663)], [], [(0, 999996, 0), (1, 3, 0), (0, 999983, 0), (1, 4, 0)])], 3000, [])
noncomputable def be_39 : bEt := (124, ([.inr (.inr [0]), .inl (0, 4294967295)], [], 3, [], [1], [((some (.inl (2147483647, 2147483886))), [])]), [], 3000, [])
noncomputable def be_40 : bEt := (125, ([.inr (.inr [0]), .inl (0, 4294967295), .inl (0, 4294967295), .inl (0, 4294967295)], [], 3, [], [0, 1], [((some (.inl (0, 4294967295))), [])]), [], 3000, [])
noncomputable def be_41 : bEt := (13, ([.inr (.inr [3]), .inl (0, 4294967295)], [], 2, [], [], [((some (.inl (2147483648, 2147483649))), [])]), [], 3000, [])
noncomputable def be_42 : bEt := (51, ([.inr (.inr [14])], [], 0, [(14, 0), (15, 999)], [], [(none, [(14, 0, 2147483657, 2147483657)])]), [(9, [(some (.inr (.inr [14]))), (some (.inr (.inr [16, 19, 22, 25, 28, 31, 34, 37, 40, 43, 46]))), (some (.inl (2147483649, 2147483658)))], [], [], [(0, 999991, 0), (1, 2, 0)])], 3000, [(14, 0), (15, 999)])
noncomputable def be_43 : bEt := (93, ([.inr (.inr [18, 21, 24, 27, 30, 33, 36, 39, 42, 45, 48]), .inr (.inr [13])], [], 0, [(18, 0), (18, 1), (18, 2), (21, 0), (21, 1), (21, 2), (24, 0), (24, 1), (24, 2), (27, 0), (27, 1), (27, 2), (30, 0), (30, 1), (30, 2), (33, 0), (33, 1), (33, 2), (36, 0), (36, 1), (36, 2), (39, 0), (39, 1), (39, 2), (42, 0), (42, 1), (42, 2), (45, 0), (45, 1), (45, 2), (48, 0), (48, 1), (48, 2)], [], [(none, [])]), [], 3000, [(18, 0), (18, 1), (18, 2), (21, 0), (21, 1), (21, 2), (24, 0), (24, 1), (24, 2), (27, 0), (27, 1), (27, 2), (30, 0), (30, 1), (30, 2), (33, 0), (33, 1), (33, 2), (36, 0), (36, 1), (36, 2), (39, 0), (39, 1), (39, 2), (42, 0), (42, 1), (42, 2), (45, 0), (45, 1), (45, 2), (48, 0), (48, 1), (48, 2)])
noncomputable def be_44 : bEt := (89, ([.inr (.inr [16, 19, 22, 25, 28, 31, 34, 37, 40, 43, 46]), .inr (.inr [3]), .inr (.inr [13])], [], 1, [(16, 0), (16, 1), (17, 999), (18, 0), (18, 1), (18, 2), (19, 0), (19, 1), (20, 999), (21, 0), (21, 1), (21, 2), (22, 0), (22, 1), (23, 999), (24, 0), (24, 1), (24, 2), (25, 0), (25, 1), (26, 999), (27, 0), (27, 1), (27, 2), (28, 0), (28, 1), (29, 999), (30, 0), (30, 1), (30, 2), (31, 0), (31, 1), (32, 999), (33, 0), (33, 1), (33, 2), (34, 0), (34, 1), (35, 999), (36, 0), (36, 1), (36, 2), (37, 0), (37, 1), (38, 999), (39, 0), (39, 1), (39, 2), (40, 0), (40, 1), (41, 999), (42, 0), (42, 1), (42, 2), (43, 0), (43, 1), (44, 999), (45, 0), (45, 1), (45, 2), (46, 0), (46, 1), (47, 999), (48, 0), (48, 1), (48, 2)], [], [(none, [])]), [(18, [(some (.inr (.inr [16, 19, 22, 25, 28, 31, 34, 37, 40, 43, 46]))), (some (.inr (.inr [3]))), (some (.inr (.inr [13]))), (some (.inl (2147483648, 2147483683)))], [], [], [(0, 999982, 0), (1, 3, 0)])], 3000, [(16, 0), (16, 1), (17, 999), (19, 0), (19, 1), (20, 999), (22, 0), (22, 1), (23, 999), (25, 0), (25, 1), (26, 999), (28, 0), (28, 1), (29, 999), (31, 0), (31, 1), (32, 999), (34, 0), (34, 1), (35, 999), (37, 0), (37, 1), (38, 999), (40, 0), (40, 1), (41, 999), (43, 0), (43, 1), (44, 999), (46, 0), (46, 1), (47, 999)])
noncomputable def be_45 : bEt := (50, ([.inr (.inr [14]), .inr (.inr [3]), .inr (.inr [13])], [], 2, [(14, 0), (15, 999), (16, 0), (16, 1), (17, 999), (18, 0), (18, 1), (18, 2), (19, 0), (19, 1), (20, 999), (21, 0), (21, 1), (21, 2), (22, 0), (22, 1), (23, 999), (24, 0), (24, 1), (24, 2), (25, 0), (25, 1), (26, 999), (27, 0), (27, 1), (27, 2), (28, 0), (28, 1), (29, 999), (30, 0), (30, 1), (30, 2), (31, 0), (31, 1), (32, 999), (33, 0), (33, 1), (33, 2), (34, 0), (34, 1), (35, 999), (36, 0), (36, 1), (36, 2), (37, 0), (37, 1), (38, 999), (39, 0), (39, 1), (39, 2), (40, 0), (40, 1), (41, 999), (42, 0), (42, 1), (42, 2), (43, 0), (43, 1), (44, 999), (45, 0), (45, 1), (45, 2), (46, 0), (46, 1), (47, 999), (48, 0), (48, 1), (48, 2)], [], [(none, [(14, 0, 2147483649, 2147483658)])]), [], 3000, [(14, 0)])
noncomputable def be_46 : bEt := (14, ([.inr (.inr [3]), .inl (0, 4294967295)], [], 2, [(4, 999), (6, 999)], [], [(none, [])]), [], 3000, [(4, 999), (6, 999)])
noncomputable def be_47 : bEt := (126, ([.inr (.inr [0]), .inl (0, 4294967295), .inl (0, 4294967295), .inl (0, 4294967295)], [], 6, [(3, 1), (4, 999), (5, 999), (6, 999), (7, 999), (14, 0), (15, 999), (16, 0), (16, 1), (17, 999), (18, 0), (18, 1), (18, 2), (19, 0), (19, 1), (20, 999), (21, 0), (21, 1), (21, 2), (22, 0), (22, 1), (23, 999), (24, 0), (24, 1), (24, 2), (25, 0), (25, 1), (26, 999), (27, 0), (27, 1), (27, 2), (28, 0), (28, 1), (29, 999), (30, 0), (30, 1), (30, 2), (31, 0), (31, 1), (32, 999), (33, 0), (33, 1), (33, 2), (34, 0), (34, 1), (35, 999), (36, 0), (36, 1), (36, 2), (37, 0), (37, 1), (38, 999), (39, 0), (39, 1), (39, 2), (40, 0), (40, 1), (41, 999), (42, 0), (42, 1), (42, 2), (43, 0), (43, 1), (44, 999), (45, 0), (45, 1), (45, 2), (46, 0), (46, 1), (47, 999), (48, 0), (48, 1), (48, 2), (49, 0), (50, 999), (51, 999)], [0, 1, 2], [((some (.inl (0, 4294967295))), [(14, 0, 2147483649, 2147483658)])]), [], 3000, [])
noncomputable def be_48 : bEt := (15, ([.inr (.inr [3]), .inl (0, 4294967295)], [], 2, [(4, 999), (6, 999)], [], [(none, [])]), [], 3000, [(4, 999), (6, 999)])
noncomputable def be_49 : bEt := (127, ([.inr (.inr [0]), .inl (0, 4294967295)], [], 6, [(3, 1), (4, 999), (5, 999), (6, 999), (7, 999), (14, 0), (15, 999), (16, 0), (16, 1), (17, 999), (18, 0), (18, 1), (18, 2), (19, 0), (19, 1), (20, 999), (21, 0), (21, 1), (21, 2), (22, 0), (22, 1), (23, 999), (24, 0), (24, 1), (24, 2), (25, 0), (25, 1), (26, 999), (27, 0), (27, 1), (27, 2), (28, 0), (28, 1), (29, 999), (30, 0), (30, 1), (30, 2), (31, 0), (31, 1), (32, 999), (33, 0), (33, 1), (33, 2), (34, 0), (34, 1), (35, 999), (36, 0), (36, 1), (36, 2), (37, 0), (37, 1), (38, 999), (39, 0), (39, 1), (39, 2), (40, 0), (40, 1), (41, 999), (42, 0), (42, 1), (42, 2), (43, 0), (43, 1), (44, 999), (45, 0), (45, 1), (45, 2), (46, 0), (46, 1), (47, 999), (48, 0), (48, 1), (48, 2), (49, 0), (50, 999), (51, 999)], [1], [((some (.inl (2147483648, 2147483683))), [(14, 0, 2147483649, 2147483658)])]), [], 3000, [])
noncomputable def bB2 : List bEt := [be_25, be_26, be_27, be_28, be_29, be_30, be_31, be_32, be_33, be_34, be_35, be_36, be_37, be_38, be_39, be_40, be_41, be_42, be_43, be_44, be_45, be_46, be_47, be_48, be_49]
theorem bB2_ok : bAll2 amGG bTT 84 bPr bL1 bB2 = true := by decide +kernel
noncomputable def bL2 : List bEt := [be_49, be_48, be_47, be_46, be_45, be_44, be_43, be_42, be_41, be_40, be_39, be_38, be_37, be_36, be_35, be_34, be_33, be_32, be_31, be_30, be_29, be_28, be_27, be_26, be_25, be_24, be_23, be_22, be_21, be_20, be_19, be_18, be_17, be_16, be_15, be_14, be_13, be_12, be_11, be_10, be_9, be_8, be_7, be_6, be_5, be_4, be_3, be_2, be_1, be_0]
theorem bL2_eq : bB2.reverse ++ bL1 = bL2 := rfl
end
