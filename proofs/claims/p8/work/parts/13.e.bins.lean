/-! ===== runs over invariants: one instruction ===== -/
theorem bOne {n : Nat} {T : Nat → Option bD} {W : List (Nat × Nat)} {ρ ρ' : List Nat} {L : List bCf} {pc : Nat} {ls : bL} {st : List bV} {S : bS} {cl : amL} {cs : List Value} {hp hp1 : amH} (hL : L = [(pc, ls, st, S)]) (h : ρ <+: ρ') (h1 : bRl n ρ' ls cl) (h2 : bRs n ρ' st cs) (h3 : bRS n ρ' S hp1) (h4 : bHk n T hp1) (h5 : bFr W hp hp1) :
    ∃ g ∈ L, ∃ ρ', ρ <+: ρ' ∧ g.1 = pc ∧ bRel n T ρ' g.2.1 g.2.2.1 g.2.2.2 cl cs hp1 ∧ bFr W hp hp1 :=
  ⟨_, by rw [hL]; exact List.mem_cons_self, ρ', h, rfl, ⟨h1, h2, h3, h4⟩, h5⟩
section BIN
variable {n : Nat} {T : Nat → Option bD} {W : List (Nat × Nat)}
def bPush (pc : Nat) (v : bV) : bA := fun ls st S => some [(pc, ls, v :: st, S)]
theorem bPush_ok {pc : Nat} {v : bV} {w : Value} (h : ∀ ρ, bR n ρ v w) : bOk n T W (bPush pc v) (fun ls st hp => some (pc, ls, w :: st, hp)) := by
  intro ls st S L ρ cl cs hp e hr
  cases e
  exact ⟨_, rfl, bOne rfl (List.prefix_refl _) hr.1 ⟨h ρ, hr.2.1⟩ hr.2.2.1 hr.2.2.2 (bFr.refl _ _)⟩
def bIs (t : Nat) : bV → Bool
  | .inr (.inr (.inl s)) => Nat.beq s t
  | _ => false
theorem bIs_J {ρ : List Nat} {v : bV} {w : Value} (h : bIs 1 v = true) (hv : bR n ρ v w) : ∃ x, w = .long x := by
  match v, h, hv with
  | .inr (.inr (.inl s)), h, hv =>
    have e : s = 1 := Nat.eq_of_beq_eq_true h
    subst e
    rcases hv with ⟨-, h⟩ | ⟨h, -⟩ | ⟨h, -⟩ | ⟨h, -⟩ | ⟨h, -⟩
    · exact h
    · omega
    · omega
    · cases h
    · unfold amK at h; omega
theorem bIs_D {ρ : List Nat} {v : bV} {w : Value} (h : bIs 2 v = true) (hv : bR n ρ v w) : ∃ x, w = .double x := by
  match v, h, hv with
  | .inr (.inr (.inl s)), h, hv =>
    have e : s = 2 := Nat.eq_of_beq_eq_true h
    subst e
    rcases hv with ⟨h, -⟩ | ⟨-, x, h, -⟩ | ⟨h, -⟩ | ⟨h, -⟩ | ⟨h, -⟩
    · cases h
    · exact ⟨x, h⟩
    · omega
    · cases h
    · unfold amK at h; omega
theorem bIs_F {ρ : List Nat} {v : bV} {w : Value} (h : bIs 3 v = true) (hv : bR n ρ v w) : ∃ x, w = .float x ∧ FP.Core.decode FP.Core.b32 x.toNat ≠ .nan := by
  match v, h, hv with
  | .inr (.inr (.inl s)), h, hv =>
    have e : s = 3 := Nat.eq_of_beq_eq_true h
    subst e
    rcases hv with ⟨h, -⟩ | ⟨h, -⟩ | ⟨-, x, h, h2, -⟩ | ⟨h, -⟩ | ⟨h, -⟩
    · cases h
    · omega
    · exact ⟨x, h, h2⟩
    · cases h
    · unfold amK at h; omega
/-- a float, or a double, that is no NaN; nz: that isn't 0 either -/
def bIsF2 : bV → Bool
  | .inr (.inr (.inl s)) => lHas [3, 5] s
  | _ => false
def bIsD2 : bV → Bool
  | .inr (.inr (.inl s)) => lHas [6, 7] s
  | _ => false
theorem bIsF2_s {ρ : List Nat} {v : bV} {w : Value} (h : bIsF2 v = true) (hv : bR n ρ v w) : ∃ x, w = .float x ∧ FP.Core.decode FP.Core.b32 x.toNat ≠ .nan := by
  match v, h, hv with
  | .inr (.inr (.inl s)), h, hv =>
    have e := lHas_s h
    simp at e
    rcases hv with ⟨h, -⟩ | ⟨h, -⟩ | ⟨-, x, h, h2, -⟩ | ⟨h, -⟩ | ⟨h, -⟩
    · omega
    · omega
    · exact ⟨x, h, h2⟩
    · omega
    · unfold amK at h; omega
theorem bIs_F5 {ρ : List Nat} {v : bV} {w : Value} (h : bIs 5 v = true) (hv : bR n ρ v w) : ∃ x, w = .float x ∧ flNz (FP.Core.decode FP.Core.b32 x.toNat) = true := by
  match v, h, hv with
  | .inr (.inr (.inl s)), h, hv =>
    have e : s = 5 := Nat.eq_of_beq_eq_true h
    subst e
    rcases hv with ⟨h, -⟩ | ⟨h, -⟩ | ⟨-, x, h, -, h3⟩ | ⟨h, -⟩ | ⟨h, -⟩
    · cases h
    · omega
    · exact ⟨x, h, h3 rfl⟩
    · cases h
    · unfold amK at h; omega
theorem bIsD2_s {ρ : List Nat} {v : bV} {w : Value} (h : bIsD2 v = true) (hv : bR n ρ v w) : ∃ x, w = .double x ∧ FP.Core.decode FP.Core.b64 x.toNat ≠ .nan := by
  match v, h, hv with
  | .inr (.inr (.inl s)), h, hv =>
    have e := lHas_s h
    simp at e
    rcases hv with ⟨h, -⟩ | ⟨-, x, h, h2, -⟩ | ⟨h, -⟩ | ⟨h, -⟩ | ⟨h, -⟩
    · omega
    · exact ⟨x, h, h2 (by omega)⟩
    · omega
    · omega
    · unfold amK at h; omega
theorem bIs_D7 {ρ : List Nat} {v : bV} {w : Value} (h : bIs 7 v = true) (hv : bR n ρ v w) : ∃ x, w = .double x ∧ flNz (FP.Core.decode FP.Core.b64 x.toNat) = true := by
  match v, h, hv with
  | .inr (.inr (.inl s)), h, hv =>
    have e : s = 7 := Nat.eq_of_beq_eq_true h
    subst e
    rcases hv with ⟨h, -⟩ | ⟨-, x, h, -, h3⟩ | ⟨h, -⟩ | ⟨h, -⟩ | ⟨h, -⟩
    · cases h
    · exact ⟨x, h, h3 rfl⟩
    · omega
    · cases h
    · unfold amK at h; omega
def bIsA : bV → Bool
  | .inr (.inr (.inl s)) => Nat.beq s 4 || Nat.ble 1000000 s
  | .inr (.inr (.inr _)) => true
  | _ => false
theorem bIsA_s {ρ : List Nat} {v : bV} {w : Value} (h : bIsA v = true) (hv : bR n ρ v w) : amIsA w = true := by
  match v, h, hv with
  | .inr (.inr (.inl s)), h, hv =>
    have e : s = 4 ∨ 1000000 ≤ s := by
      have h : (Nat.beq s 4 || Nat.ble 1000000 s) = true := h
      rw [Bool.or_eq_true] at h
      exact h.imp Nat.eq_of_beq_eq_true a_le
    rcases hv with ⟨h, -⟩ | ⟨h, -⟩ | ⟨h, -⟩ | ⟨-, rfl⟩ | ⟨-, rfl⟩
    · omega
    · omega
    · omega
    · rfl
    · rfl
  | .inr (.inr (.inr l)), h, ⟨i, e, _⟩ => subst e; rfl
def bKd (n : Nat) (p : bV → Bool) (p' : Value → Bool) : Prop := ∀ ρ v w, p v = true → bR n ρ v w → p' w = true
theorem bKd_I : bKd n bIsI amIsI := fun ρ v w h hv => by obtain ⟨x, rfl⟩ := bIsI_s h hv; rfl
theorem bKd_J : bKd n (bIs 1) amIsJ := fun ρ v w h hv => by obtain ⟨x, rfl⟩ := bIs_J h hv; rfl
theorem bKd_D : bKd n (bIs 2) amIsD := fun ρ v w h hv => by obtain ⟨x, rfl⟩ := bIs_D h hv; rfl
theorem bKd_A : bKd n bIsA amIsA := fun ρ v w h hv => bIsA_s h hv
def bLdA (pc : Nat) (p : bV → Bool) (j : Nat) : bA := fun ls st S => match bGet ls j with
  | some v => (match p v with
    | true => some [(pc, ls, v :: st, S)]
    | false => none)
  | none => none
theorem bLdA_ok {pc j : Nat} {p : bV → Bool} {p' : Value → Bool} (hp : bKd n p p') : bOk n T W (bLdA pc p j) (fun ls st hp => (amLd p' ls j st).map (fun s => (pc, ls, s, hp))) := by
  intro ls st S L ρ cl cs h e hr
  unfold bLdA at e
  split at e
  · next v ev =>
    split at e
    · next ep =>
      cases e
      obtain ⟨w, g1, g2⟩ := hr.1.1 j v ev
      refine ⟨(pc, cl, w :: cs, h), ?_, bOne rfl (List.prefix_refl _) hr.1 ⟨g2, hr.2.1⟩ hr.2.2.1 hr.2.2.2 (bFr.refl _ _)⟩
      simp only [amLd, g1, hp _ _ _ ep g2, if_true, Option.map_some]
    · cases e
  · cases e
def bStA (pc : Nat) (p : bV → Bool) (nL j : Nat) : bA := fun ls st S => match st with
  | v :: r => (match p v with
    | true => (match Nat.ble (Nat.add j 1) nL with
      | true => (match bSet1 ls j v with
        | some l1 => some [(pc, l1, r, S)]
        | none => none)
      | false => none)
    | false => none)
  | [] => none
theorem bStA_ok {pc nL j : Nat} {p : bV → Bool} {p' : Value → Bool} (hp : bKd n p p') : bOk n T W (bStA pc p nL j) (fun ls st hp => (amSt1 p' nL ls j st).map (fun q => (pc, q.1, q.2, hp))) := by
  intro ls st S L ρ cl cs h e hr
  unfold bStA at e
  split at e
  · next v r =>
    obtain ⟨w, ws, rfl, hv, hs⟩ := bRs_cons hr.2.1
    split at e
    · next ep =>
      split at e
      · next el =>
        split at e
        · next l1 e1 =>
          cases e
          refine ⟨(pc, amSet1 cl j w, ws, h), ?_, bOne rfl (List.prefix_refl _) (bSet1_s hr.1 hv e1) hs hr.2.2.1 hr.2.2.2 (bFr.refl _ _)⟩
          simp only [amSt1, hp _ _ _ ep hv, show j < nL from a_lt1 el, decide_true, Bool.and_self, if_true, Option.map_some]
        · cases e
      · cases e
    · cases e
  · cases e
def bStA2 (pc : Nat) (p : bV → Bool) (nL j : Nat) : bA := fun ls st S => match st with
  | v :: r => (match p v with
    | true => (match Nat.ble (Nat.add j 2) nL with
      | true => (match bSet2 ls j v with
        | some l1 => some [(pc, l1, r, S)]
        | none => none)
      | false => none)
    | false => none)
  | [] => none
theorem bStA2_ok {pc nL j : Nat} {p : bV → Bool} {p' : Value → Bool} (hp : bKd n p p') : bOk n T W (bStA2 pc p nL j) (fun ls st hp => (amSt2 p' nL ls j st).map (fun q => (pc, q.1, q.2, hp))) := by
  intro ls st S L ρ cl cs h e hr
  unfold bStA2 at e
  split at e
  · next v r =>
    obtain ⟨w, ws, rfl, hv, hs⟩ := bRs_cons hr.2.1
    split at e
    · next ep =>
      split at e
      · next el =>
        split at e
        · next l1 e1 =>
          cases e
          have el : j + 2 ≤ nL := a_le el
          refine ⟨(pc, amSet2 cl j w, ws, h), ?_, bOne rfl (List.prefix_refl _) (bSet2_s hr.1 hv e1) hs hr.2.2.1 hr.2.2.2 (bFr.refl _ _)⟩
          simp only [amSt2, hp _ _ _ ep hv, show j + 1 < nL by omega, decide_true, Bool.and_self, if_true, Option.map_some]
        · cases e
      · cases e
    · cases e
  · cases e
def bInc (pc nL j k : Nat) : bA := fun ls st S => match bGet ls j with
  | some v => (match bAddC S.1 v k with
    | some r => (match Nat.ble (Nat.add j 1) nL with
      | true => (match bSet1 ls j r.1 with
        | some l1 => some [(pc, l1, st, r.2, S.2)]
        | none => none)
      | false => none)
    | none => none)
  | none => none
theorem bInc_ok {pc nL j : Nat} {c : Int} : bOk n T W (bInc pc nL j (aOff (Int32.ofInt c))) (fun ls st hp => (amInc nL ls j c).map (fun q => (pc, q, st, hp))) := by
  intro ls st S L ρ cl cs h e hr
  unfold bInc at e
  split at e
  · next v ev =>
    split at e
    · next r er =>
      split at e
      · next el =>
        split at e
        · next l1 e1 =>
          cases e
          obtain ⟨w, g1, g2⟩ := hr.1.1 j v ev
          obtain ⟨x, rfl⟩ := bIsI_s (bAddC_i er) g2
          obtain ⟨ρ', h1, h2, h3⟩ := bAddC_s (u := r.1) (E' := r.2) hr.2.2.1.1 er g2 rfl
          refine ⟨(pc, amSet1 cl j (.int (x + Int32.ofInt c)), cs, h), ?_, bOne rfl h1 (bSet1_s (bRl_mono h1 hr.1) h3 e1) (bRs_mono h1 hr.2.1) (bRS_ext h1 hr.2.2.1 h2) hr.2.2.2 (bFr.refl _ _)⟩
          simp only [amInc, g1, show j < nL from a_lt1 el, if_true, Option.map_some]
        · cases e
      · cases e
    · cases e
  · cases e
/-- two numbers to one -/
def bTwo (pc : Nat) (g : bS → bV → bV → Option (bV × bS)) : bA := fun ls st S => match st with
  | y :: x :: r => (match g S x y with
    | some q => some [(pc, ls, q.1 :: r, q.2)]
    | none => none)
  | _ => none
def bTok (n : Nat) (f : Int32 → Int32 → Int32) (g : bS → bV → bV → Option (bV × bS)) : Prop := ∀ (ρ : List Nat) (S S' : bS) (hp : amH) (u v r : bV) (a b : Value), bRS n ρ S hp → g S u v = some (r, S') → bR n ρ u a → bR n ρ v b → ∃ x y ρ', a = .int x ∧ b = .int y ∧ ρ <+: ρ' ∧ bRS n ρ' S' hp ∧ bR n ρ' r (.int (f x y))
theorem bTok_add : bTok n (fun x y => x + y) bAdd := fun ρ S S' hp u v r a b hS h hu hv => bAdd_s hS h hu hv
theorem bTok_sub : bTok n (fun x y => x - y) bSub := fun ρ S S' hp u v r a b hS h hu hv => bSub_s hS h hu hv
theorem bTok_bin {f : Int32 → Int32 → Int32} {g : bG} (hg : bGok f g) : bTok n f (bBin g) := fun ρ S S' hp u v r a b hS h hu hv => bBin_s hg hS h hu hv
theorem bTwo_ok {pc : Nat} {f : Int32 → Int32 → Int32} {g : bS → bV → bV → Option (bV × bS)} (hg : bTok n f g) : bOk n T W (bTwo pc g) (fun ls st hp => (amII f st).map (fun s => (pc, ls, s, hp))) := by
  intro ls st S L ρ cl cs h e hr
  unfold bTwo at e
  split at e
  · next y x r =>
    obtain ⟨w, ws, rfl, hv, hs⟩ := bRs_cons hr.2.1
    obtain ⟨w2, ws, rfl, hv2, hs2⟩ := bRs_cons hs
    split at e
    · next q eq =>
      cases e
      obtain ⟨a, b, ρ', rfl, rfl, h1, h2, h3⟩ := hg ρ S q.2 h x y q.1 _ _ hr.2.2.1 eq hv2 hv
      exact ⟨_, rfl, bOne rfl h1 (bRl_mono h1 hr.1) ⟨h3, bRs_mono h1 hs2⟩ h2 hr.2.2.2 (bFr.refl _ _)⟩
    · cases e
  · cases e
/-- a quotient: what divides isn't 0 -/
def bDvA (pc : Nat) (g : bG) : bA := fun ls st S => match st with
  | y :: x :: r => (match bIv S.1 y with
    | some q => (match Nat.ble 2147483649 q.1 with
      | true => (match bBin g S x y with
        | some q => some [(pc, ls, q.1 :: r, q.2)]
        | none => none)
      | false => (match Nat.ble q.2 2147483647 with
        | true => (match bBin g S x y with
          | some q => some [(pc, ls, q.1 :: r, q.2)]
          | none => none)
        | false => none))
    | none => none)
  | _ => none
theorem bDvA_ok {pc : Nat} {f : Int32 → Int32 → Int32} {g : bG} (hg : bGok f g) : bOk n T W (bDvA pc g) (fun ls st hp => (amDiv f st).map (fun s => (pc, ls, s, hp))) := by
  intro ls st S L ρ cl cs h e hr
  unfold bDvA at e
  split at e
  · next y x r =>
    obtain ⟨w, ws, rfl, hv, hs⟩ := bRs_cons hr.2.1
    obtain ⟨w2, ws, rfl, hv2, hs2⟩ := bRs_cons hs
    have key : (∃ q, bIv S.1 y = some q ∧ (2147483649 ≤ q.1 ∨ q.2 ≤ 2147483647)) ∧ ∃ q, bBin g S x y = some q ∧ L = [(pc, ls, q.1 :: r, q.2)] := by
      split at e
      · next q eq =>
        split at e
        · next e1 =>
          split at e
          · next z ez => cases e; exact ⟨⟨q, eq, Or.inl (a_le e1)⟩, z, ez, rfl⟩
          · cases e
        · split at e
          · next e1 =>
            split at e
            · next z ez => cases e; exact ⟨⟨q, eq, Or.inr (a_le e1)⟩, z, ez, rfl⟩
            · cases e
          · cases e
      · cases e
    obtain ⟨⟨q, eq, hq⟩, z, ez, rfl⟩ := key
    obtain ⟨a, b, ρ', rfl, rfl, h1, h2, h3⟩ := bBin_s (r := z.1) (S' := z.2) hg hr.2.2.1 ez hv2 hv
    obtain ⟨b', eb, hb⟩ := bIv_s hr.2.2.1.1 eq hv
    cases eb
    have hb := bIn_off.mp hb
    have h0 : ¬ b = 0 := fun z => by
      subst z
      have : aOff (0 : Int32) = 2147483648 := by decide
      omega
    refine ⟨(pc, cl, .int (f a b) :: ws, h), by simp only [amDiv, h0, if_false, Option.map_some], bOne rfl h1 (bRl_mono h1 hr.1) ⟨h3, bRs_mono h1 hs2⟩ h2 hr.2.2.2 (bFr.refl _ _)⟩
  · cases e
/-- one value to another of a type -/
def bUn (pc : Nat) (p : bV → Bool) (y : bY) : bA := fun ls st S => match st with
  | v :: r => (match p v with
    | true => (match bOfY S.1 y with
      | (u, E') => some [(pc, ls, u :: r, E', S.2)])
    | false => none)
  | [] => none
theorem bUn_ok {pc : Nat} {p : bV → Bool} {y : bY} {cf : amL → List Value → amH → Option amR} (h : ∀ (ρ : List Nat) (v : bV) (w : Value), p v = true → bR n ρ v w → ∃ u, bYr n y u ∧ ∀ cl r hp, cf cl (w :: r) hp = some (pc, cl, u :: r, hp)) : bOk n T W (bUn pc p y) cf := by
  intro ls st S L ρ cl cs hp e hr
  unfold bUn at e
  split at e
  · next v r =>
    obtain ⟨w, ws, rfl, hv, hs⟩ := bRs_cons hr.2.1
    split at e
    · next ep =>
      obtain ⟨u, hu, hc⟩ := h ρ v w ep hv
      obtain ⟨ρ', h1, h2, h3⟩ := bOfY_s (n := n) hr.2.2.1.1 hu
      split at e
      next z E' ez =>
      rw [ez] at h2 h3
      cases e
      exact ⟨_, hc cl ws hp, bOne rfl h1 (bRl_mono h1 hr.1) ⟨h3, bRs_mono h1 hs⟩ (bRS_ext h1 hr.2.2.1 h2) hr.2.2.2 (bFr.refl _ _)⟩
    · cases e
  · cases e
/-- two values to one of a type -/
def bBi (pc : Nat) (p q : bV → Bool) (y : bY) : bA := fun ls st S => match st with
  | v :: u :: r => (match p v with
    | true => (match q u with
      | true => (match bOfY S.1 y with
        | (z, E') => some [(pc, ls, z :: r, E', S.2)])
      | false => none)
    | false => none)
  | _ => none
theorem bBi_ok {pc : Nat} {p q : bV → Bool} {y : bY} {cf : amL → List Value → amH → Option amR} (h : ∀ (ρ : List Nat) (v u : bV) (w x : Value), p v = true → q u = true → bR n ρ v w → bR n ρ u x → ∃ z, bYr n y z ∧ ∀ cl r hp, cf cl (w :: x :: r) hp = some (pc, cl, z :: r, hp)) : bOk n T W (bBi pc p q y) cf := by
  intro ls st S L ρ cl cs hp e hr
  unfold bBi at e
  split at e
  · next v u r =>
    obtain ⟨w, ws, rfl, hv, hs⟩ := bRs_cons hr.2.1
    obtain ⟨x, ws, rfl, hu, hs⟩ := bRs_cons hs
    split at e
    · next ep =>
      split at e
      · next eq =>
        obtain ⟨z, hz, hc⟩ := h ρ v u w x ep eq hv hu
        obtain ⟨ρ', h1, h2, h3⟩ := bOfY_s (n := n) hr.2.2.1.1 hz
        split at e
        next z E' ez =>
        rw [ez] at h2 h3
        cases e
        exact ⟨_, hc cl ws hp, bOne rfl h1 (bRl_mono h1 hr.1) ⟨h3, bRs_mono h1 hs⟩ (bRS_ext h1 hr.2.2.1 h2) hr.2.2.2 (bFr.refl _ _)⟩
      · cases e
    · cases e
  · cases e
def bDup (pc : Nat) : bA := fun ls st S => match st with
  | v :: r => (match Nat.beq (bCat v) 1 with
    | true => some [(pc, ls, v :: v :: r, S)]
    | false => none)
  | [] => none
def bPop (pc : Nat) : bA := fun ls st S => match st with
  | v :: r => (match Nat.beq (bCat v) 1 with
    | true => some [(pc, ls, r, S)]
    | false => none)
  | [] => none
def bDup2 (pc : Nat) : bA := fun ls st S => match st with
  | v :: u :: r => (match Nat.beq (bCat v) 1 with
    | true => (match Nat.beq (bCat u) 1 with
      | true => some [(pc, ls, v :: u :: v :: u :: r, S)]
      | false => none)
    | false => none)
  | _ => none
theorem bDup_ok {pc : Nat} {cf : amL → List Value → amH → Option amR} (h1 : ∀ ls v r hp, v.category = 1 → cf ls (v :: r) hp = some (pc, ls, v :: v :: r, hp)) : bOk n T W (bDup pc) cf := by
  intro ls st S L ρ cl cs hp e hr
  unfold bDup at e
  split at e
  · next v r =>
    obtain ⟨w, ws, rfl, hv, hs⟩ := bRs_cons hr.2.1
    split at e
    · next e1 =>
      cases e
      exact ⟨_, h1 _ _ _ _ (by rw [bR_cat hv]; exact Nat.eq_of_beq_eq_true e1), bOne rfl (List.prefix_refl _) hr.1 ⟨hv, hv, hs⟩ hr.2.2.1 hr.2.2.2 (bFr.refl _ _)⟩
    · cases e
  · cases e
theorem bPop_ok {pc : Nat} {cf : amL → List Value → amH → Option amR} (h1 : ∀ ls v r hp, v.category = 1 → cf ls (v :: r) hp = some (pc, ls, r, hp)) : bOk n T W (bPop pc) cf := by
  intro ls st S L ρ cl cs hp e hr
  unfold bPop at e
  split at e
  · next v r =>
    obtain ⟨w, ws, rfl, hv, hs⟩ := bRs_cons hr.2.1
    split at e
    · next e1 =>
      cases e
      exact ⟨_, h1 _ _ _ _ (by rw [bR_cat hv]; exact Nat.eq_of_beq_eq_true e1), bOne rfl (List.prefix_refl _) hr.1 hs hr.2.2.1 hr.2.2.2 (bFr.refl _ _)⟩
    · cases e
  · cases e
theorem bDup2_ok {pc : Nat} {cf : amL → List Value → amH → Option amR} (h1 : ∀ ls v u r hp, v.category = 1 ∧ u.category = 1 → cf ls (v :: u :: r) hp = some (pc, ls, v :: u :: v :: u :: r, hp)) : bOk n T W (bDup2 pc) cf := by
  intro ls st S L ρ cl cs hp e hr
  unfold bDup2 at e
  split at e
  · next v u r =>
    obtain ⟨w, ws, rfl, hv, hs⟩ := bRs_cons hr.2.1
    obtain ⟨w2, ws, rfl, hu, hs⟩ := bRs_cons hs
    split at e
    · next e1 =>
      split at e
      · next e2 =>
        cases e
        exact ⟨_, h1 _ _ _ _ _ ⟨by rw [bR_cat hv]; exact Nat.eq_of_beq_eq_true e1, by rw [bR_cat hu]; exact Nat.eq_of_beq_eq_true e2⟩, bOne rfl (List.prefix_refl _) hr.1 ⟨hv, hu, hv, hu, hs⟩ hr.2.2.1 hr.2.2.2 (bFr.refl _ _)⟩
      · cases e
    · cases e
  · cases e
def bGo (pc : Nat) : bA := fun ls st S => some [(pc, ls, st, S)]
theorem bGo_ok {pc : Nat} : bOk n T W (bGo pc) (fun ls st hp => some (pc, ls, st, hp)) := by
  intro ls st S L ρ cl cs hp e hr
  cases e
  exact ⟨_, rfl, bOne rfl (List.prefix_refl _) hr.1 hr.2.1 hr.2.2.1 hr.2.2.2 (bFr.refl _ _)⟩
/-- a whole number made a float or a double: t0, or t1 where it is 1 to 199 -/
def bI2 (pc t0 t1 : Nat) : bA := fun ls st S => match st with
  | v :: r => (match bIv S.1 v with
    | some q => (match Nat.ble 2147483649 q.1 && Nat.ble q.2 2147483847 with
      | true => some [(pc, ls, .inr (.inr (.inl t1)) :: r, S)]
      | false => some [(pc, ls, .inr (.inr (.inl t0)) :: r, S)])
    | none => none)
  | [] => none
theorem bI2_ok {pc t0 t1 : Nat} {f : Int32 → Value} (h0 : ∀ x, bT t0 (f x)) (h1 : ∀ x : Int32, 1 ≤ x.toInt → x.toInt ≤ 199 → bT t1 (f x)) : bOk n T W (bI2 pc t0 t1) (fun ls st hp => (amI f st).map (fun s => (pc, ls, s, hp))) := by
  intro ls st S L ρ cl cs hp e hr
  unfold bI2 at e
  split at e
  · next v r =>
    obtain ⟨w, ws, rfl, hv, hs⟩ := bRs_cons hr.2.1
    split at e
    · next q eq =>
      obtain ⟨x, rfl, hx⟩ := bIv_s hr.2.2.1.1 eq hv
      split at e
      · next e1 =>
        cases e
        rw [Bool.and_eq_true] at e1
        have g1 := a_le e1.1
        have g2 := a_le e1.2
        have hx := bIn_off.mp hx
        have ax := aOff_eq x
        exact ⟨_, rfl, bOne rfl (List.prefix_refl _) hr.1 ⟨h1 x (by omega) (by omega), hs⟩ hr.2.2.1 hr.2.2.2 (bFr.refl _ _)⟩
      · cases e
        exact ⟨_, rfl, bOne rfl (List.prefix_refl _) hr.1 ⟨h0 x, hs⟩ hr.2.2.1 hr.2.2.2 (bFr.refl _ _)⟩
    · cases e
  · cases e
/-! branches -/
def bOpt (o : Option bS) (pc : Nat) (ls : bL) (st : List bV) (r : List bCf) : List bCf := match o with
  | some S => (pc, ls, st, S) :: r
  | none => r
def bBr (c : Jvm.ClassFile.Cond) (t e : Nat) (x y : bV) (ls : bL) (st : List bV) (S : bS) : List bCf := bOpt (bCond c S x y) t ls st (bOpt (bCond (bNeg c) S x y) e ls st [])
theorem bBr_s {ρ : List Nat} {c : Jvm.ClassFile.Cond} {t e : Nat} {u v : bV} {x y : Int32} {ls : bL} {st : List bV} {S : bS} {cl : amL} {cs : List Value} {hp : amH} (hu : bR n ρ u (.int x)) (hv : bR n ρ v (.int y)) (h1 : bRl n ρ ls cl) (h2 : bRs n ρ st cs) (h3 : bRS n ρ S hp) (h4 : bHk n T hp) :
    ∃ g ∈ bBr c t e u v ls st S, ∃ ρ', ρ <+: ρ' ∧ g.1 = (if amCmpP c x y then t else e) ∧ bRel n T ρ' g.2.1 g.2.2.1 g.2.2.2 cl cs hp ∧ bFr W hp hp := by
  unfold bBr
  cases hc : amCmpP c x y with
  | true =>
    obtain ⟨S1, e1, g1⟩ := bCond_s h3 hu hv hc
    rw [e1]
    exact ⟨_, List.mem_cons_self, ρ, List.prefix_refl _, rfl, ⟨h1, h2, g1, h4⟩, bFr.refl _ _⟩
  | false =>
    have hc2 : amCmpP (bNeg c) x y = true := by rw [bNeg_s, hc]; rfl
    obtain ⟨S1, e1, g1⟩ := bCond_s h3 hu hv hc2
    rw [e1]
    refine ⟨(e, ls, st, S1), ?_, ρ, List.prefix_refl _, rfl, ⟨h1, h2, g1, h4⟩, bFr.refl _ _⟩
    cases bCond c S u v with
    | some S2 => exact List.mem_cons_of_mem _ List.mem_cons_self
    | none => exact List.mem_cons_self
def bIfA (c : Jvm.ClassFile.Cond) (t e : Nat) : bA := fun ls st S => match st with
  | v :: r => (match bIsI v with
    | true => some (bBr c t e v (.inl 2147483648) ls r S)
    | false => none)
  | [] => none
def bCmpA (c : Jvm.ClassFile.Cond) (t e : Nat) : bA := fun ls st S => match st with
  | y :: x :: r => (match bIsI y with
    | true => (match bIsI x with
      | true => some (bBr c t e x y ls r S)
      | false => none)
    | false => none)
  | _ => none
theorem bIfA_ok {c : Jvm.ClassFile.Cond} {t e0 : Nat} : bOk n T W (bIfA c t e0) (fun ls st hp => (amIf (amIfP c) t e0 st).map (fun q => (q.1, ls, q.2, hp))) := by
  intro ls st S L ρ cl cs hp e hr
  unfold bIfA at e
  split at e
  · next v r =>
    obtain ⟨w, ws, rfl, hv, hs⟩ := bRs_cons hr.2.1
    split at e
    · next e1 =>
      cases e
      obtain ⟨x, rfl⟩ := bIsI_s e1 hv
      refine ⟨_, rfl, ?_⟩
      dsimp only
      rw [amIfP_cmp]
      exact bBr_s hv ⟨0, rfl, by decide⟩ hr.1 hs hr.2.2.1 hr.2.2.2
    · cases e
  · cases e
theorem bCmpA_ok {c : Jvm.ClassFile.Cond} {t e0 : Nat} : bOk n T W (bCmpA c t e0) (fun ls st hp => (amCmp (amCmpP c) t e0 st).map (fun q => (q.1, ls, q.2, hp))) := by
  intro ls st S L ρ cl cs hp e hr
  unfold bCmpA at e
  split at e
  · next v u r =>
    obtain ⟨w, ws, rfl, hv, hs⟩ := bRs_cons hr.2.1
    obtain ⟨w2, ws, rfl, hu, hs2⟩ := bRs_cons hs
    split at e
    · next e1 =>
      split at e
      · next e2 =>
        cases e
        obtain ⟨x, rfl⟩ := bIsI_s e1 hv
        obtain ⟨y, rfl⟩ := bIsI_s e2 hu
        exact ⟨_, rfl, bBr_s hu hv hr.1 hs2 hr.2.2.1 hr.2.2.2⟩
      · cases e
    · cases e
  · cases e
def bNulA (t e : Nat) : bA := fun ls st S => match st with
  | .inr (.inr (.inr _)) :: r => some [(e, ls, r, S)]
  | _ => none
theorem bNulA_ok {t e0 : Nat} {cf : amL → List Value → amH → Option amR} (h1 : ∀ ls o r hp, cf ls (.ref o :: r) hp = some (e0, ls, r, hp)) : bOk n T W (bNulA t e0) cf := by
  intro ls st S L ρ cl cs hp e hr
  unfold bNulA at e
  split at e
  · next l r =>
    obtain ⟨w, ws, rfl, hv, hs⟩ := bRs_cons hr.2.1
    obtain ⟨i, rfl, -⟩ := hv
    cases e
    exact ⟨_, h1 _ _ _ _, bOne rfl (List.prefix_refl _) hr.1 hs hr.2.2.1 hr.2.2.2 (bFr.refl _ _)⟩
  · cases e
/-- the ways of a table -/
def bTabs (pc lo : Nat) (v : bV) (ls : bL) (st : List bV) (S : bS) : List Int → List bCf → List bCf
  | [], r => r
  | o :: os, r => bOpt (bCond .eq S v (.inl lo)) ((pc : Int) + o).toNat ls st (bTabs pc (Nat.add lo 1) v ls st S os r)
theorem bTabs_in {pc : Nat} {v : bV} {ls : bL} {st : List bV} {S : bS} {r : List bCf} : ∀ {os : List Int} {lo : Nat} {g : bCf}, g ∈ r → g ∈ bTabs pc lo v ls st S os r
  | [], _, _, h => h
  | o :: os, lo, g, h => by
    unfold bTabs bOpt
    split
    · exact List.mem_cons_of_mem _ (bTabs_in h)
    · exact bTabs_in h
theorem bTabs_s {ρ : List Nat} {pc : Nat} {v : bV} {x : Int32} {ls : bL} {st : List bV} {S : bS} {hp : amH} {r : List bCf} (hv : bR n ρ v (.int x)) (hS : bRS n ρ S hp) : ∀ {os : List Int} {lo k : Nat} {o : Int}, os[k]? = some o → aOff x = lo + k → ∃ S', (((pc : Int) + o).toNat, ls, st, S') ∈ bTabs pc lo v ls st S os r ∧ bRS n ρ S' hp
  | o' :: os, lo, 0, o, h, hx => by
    cases h
    have hc : amCmpP .eq x (aInt lo) = true := by
      simp only [amCmpP, decide_eq_true_eq]
      have := bOff_le x
      have h1 := aInt_toInt (n := lo) (by omega)
      have h2 := aOff_eq x
      exact Int32.toInt_inj.mp (by omega)
    have h0 : aOff (aInt lo) = lo := by
      have := bOff_le x
      have h1 := aInt_toInt (n := lo) (by omega)
      have h2 := aOff_eq (aInt lo)
      omega
    obtain ⟨S1, e1, g1⟩ := bCond_s (v := .inl lo) hS hv ⟨aInt lo, rfl, h0⟩ hc
    unfold bTabs
    rw [e1]
    exact ⟨S1, List.mem_cons_self, g1⟩
  | o' :: os, lo, k + 1, o, h, hx => by
    obtain ⟨S1, e1, g1⟩ := bTabs_s (r := r) hv hS (os := os) (lo := Nat.add lo 1) (k := k) (o := o) (by simpa using h) (by show _ = lo + 1 + k; omega)
    refine ⟨S1, ?_, g1⟩
    unfold bTabs bOpt
    split
    · exact List.mem_cons_of_mem _ e1
    · exact e1
def bTabA (pc : Nat) (d lo hi : Int) (offs : Array Int) : bA := fun ls st S => match st with
  | v :: r => (match bIsI v with
    | true => if (((decide (-2147483648 ≤ lo) && decide (lo ≤ hi)) && decide (hi ≤ 2147483647)) && decide ((offs.toList.length : Int) = hi - lo + 1)) && (decide (0 ≤ (pc : Int) + d) && offs.toList.all (fun o => decide (0 ≤ (pc : Int) + o))) then some (bTabs pc (lo + 2147483648).toNat v ls r S offs.toList (bOpt (bCond .lt S v (.inl (lo + 2147483648).toNat)) ((pc : Int) + d).toNat ls r (bOpt (bCond .gt S v (.inl (hi + 2147483648).toNat)) ((pc : Int) + d).toNat ls r []))) else none
    | false => none)
  | [] => none
theorem bTabA_ok {pc : Nat} {d lo hi : Int} {offs : Array Int} : bOk n T W (bTabA pc d lo hi offs) (fun ls st hp => (amTbl pc d lo hi offs st).map (fun q => (q.1, ls, q.2, hp))) := by
  intro ls st S L ρ cl cs hp e hr
  unfold bTabA at e
  split at e
  · next v r =>
    obtain ⟨w, ws, rfl, hv, hs⟩ := bRs_cons hr.2.1
    split at e
    · next e1 =>
      split at e
      · next e2 =>
        cases e
        obtain ⟨x, rfl⟩ := bIsI_s e1 hv
        simp only [Bool.and_eq_true, decide_eq_true_eq, List.all_eq_true] at e2
        obtain ⟨⟨⟨⟨c1, c9⟩, c2⟩, c3⟩, c4, c5⟩ := e2
        have ax := aOff_eq x
        have mx := aMax x
        have mn := aMin x
        by_cases hx : x.toInt < lo ∨ hi < x.toInt
        · have hcf : (amTbl pc d lo hi offs (.int x :: ws)).map (fun q => (q.1, cl, q.2, hp)) = some (((pc : Int) + d).toNat, cl, ws, hp) := by
            simp only [amTbl, amOff, hx, if_true, c4, Option.map_some]
          have hco : ∀ z : Int, -2147483648 ≤ z → z ≤ 2147483647 → aOff (Int32.ofInt z) = (z + 2147483648).toNat ∧ (Int32.ofInt z).toInt = z := by
            intro z z1 z2
            have h1 : (Int32.ofInt z).toInt = z := by rw [Int32.toInt_ofInt]; exact aBmod z1 z2
            have h2 := aOff_eq (Int32.ofInt z)
            omega
          rcases hx with h1 | h1
          · obtain ⟨u1, u2⟩ := hco lo c1 (by omega)
            obtain ⟨S1, e3, g3⟩ := bCond_s (c := .lt) (v := .inl (lo + 2147483648).toNat) (y := Int32.ofInt lo) hr.2.2.1 hv ⟨_, rfl, u1⟩ (by simp only [amCmpP, decide_eq_true_eq]; rw [Int32.lt_iff_toInt_lt]; omega)
            exact ⟨_, hcf, _, bTabs_in (by rw [e3]; exact List.mem_cons_self), ρ, List.prefix_refl _, rfl, ⟨hr.1, hs, g3, hr.2.2.2⟩, bFr.refl _ _⟩
          · obtain ⟨u1, u2⟩ := hco hi (by omega) c2
            obtain ⟨S1, e3, g3⟩ := bCond_s (c := .gt) (v := .inl (hi + 2147483648).toNat) (y := Int32.ofInt hi) hr.2.2.1 hv ⟨_, rfl, u1⟩ (by simp only [amCmpP, decide_eq_true_eq]; rw [Int32.lt_iff_toInt_lt]; omega)
            refine ⟨_, hcf, (((pc : Int) + d).toNat, ls, r, S1), bTabs_in ?_, ρ, List.prefix_refl _, rfl, ⟨hr.1, hs, g3, hr.2.2.2⟩, bFr.refl _ _⟩
            unfold bOpt
            rw [e3]
            split
            · exact List.mem_cons_of_mem _ List.mem_cons_self
            · exact List.mem_cons_self
        · have hk : (x.toInt - lo).toNat < offs.toList.length := by omega
          have hg := List.getElem?_eq_getElem hk
          obtain ⟨S1, g1, g2⟩ := bTabs_s (pc := pc) (ls := ls) (st := r) (r := bOpt (bCond .lt S v (.inl (lo + 2147483648).toNat)) ((pc : Int) + d).toNat ls r (bOpt (bCond .gt S v (.inl (hi + 2147483648).toNat)) ((pc : Int) + d).toNat ls r [])) hv hr.2.2.1 (lo := (lo + 2147483648).toNat) hg (by omega)
          have h5 := c5 _ (List.getElem_mem hk)
          refine ⟨(((pc : Int) + offs.toList[(x.toInt - lo).toNat]).toNat, cl, ws, hp), ?_, _, g1, ρ, List.prefix_refl _, rfl, ⟨hr.1, hs, g2, hr.2.2.2⟩, bFr.refl _ _⟩
          have h6 : offs[(x.toInt - lo).toNat]? = some offs.toList[(x.toInt - lo).toNat] := by rw [← hg, Array.getElem?_toList]
          simp only [amTbl, amOff, hx, if_false, h6, h5, if_true, Option.map_some]
      · cases e
    · cases e
  · cases e
end BIN
