/-! ===== runs over invariants: rows read, written, copied ===== -/
section BRW
variable {n : Nat} {T : Nat → Option bD} {W : List (Nat × Nat)}
/-- the type's kind: what a row of the kind t bears -/
def bKy (t : Nat) : bY → Bool
  | .inl _ => (match Nat.beq t 32 with
    | true => true
    | false => Nat.beq t 34)
  | .inr (.inl s) => (match Nat.beq t 33 with
    | true => Nat.beq s 1
    | false => false)
  | .inr (.inr _) => Nat.beq t 35
def bKp (t : Nat) : Value → Bool := match t with
  | 33 => amIsJ
  | 35 => amIsA
  | _ => amIsI
theorem bKy_s {t : Nat} {y : bY} {w : Value} (h : bKy t y = true) (hw : bYr n y w) : bKp t w = true := by
  match y, h, hw with
  | .inl q, h, ⟨x, e, _⟩ =>
    subst e
    have : t = 32 ∨ t = 34 := by
      simp only [bKy] at h
      split at h
      · next e => exact Or.inl (Nat.eq_of_beq_eq_true e)
      · exact Or.inr (Nat.eq_of_beq_eq_true h)
    rcases this with rfl | rfl <;> rfl
  | .inr (.inl s), h, hw =>
    simp only [bKy] at h
    split at h
    · next e =>
      have e := Nat.eq_of_beq_eq_true e
      have h9 := Nat.eq_of_beq_eq_true ‹s.beq 1 = true›
      subst e
      subst h9
      rcases hw with ⟨-, x, rfl⟩ | ⟨h, -⟩ | ⟨h, -⟩ | ⟨h, -⟩ | ⟨h, -⟩
      · rfl
      · omega
      · omega
      · cases h
      · unfold amK at h; omega
    · cases h
  | .inr (.inr l), h, ⟨i, e, _⟩ =>
    subst e
    have h := Nat.eq_of_beq_eq_true h
    subst h
    rfl
def bAldA (T : Nat → Option bD) (pc t : Nat) : bA := fun ls st S => match st with
  | i :: .inr (.inr (.inr l)) :: r => (match bIv S.1 i with
    | some q => (match l with
      | [] => none
      | c :: l' => (match bElt T false t q c with
        | some y => (match bKy t y with
          | true => (match lAll (fun d => match bElt T false t q d with
              | some y' => bYle y' y
              | none => false) l' with
            | true => (match bOfY S.1 y with
              | (v, E') => some [(pc, ls, v :: r, E', S.2)])
            | false => none)
          | false => none)
        | none => none))
    | none => none)
  | _ => none
theorem bAldA_k {pc t : Nat} {ls : bL} {st : List bV} {S : bS} {L : List bCf} {ρ : List Nat} {cl : amL} {cs : List Value} {hp : amH} (e : bAldA T pc t ls st S = some L) (hr : bRel n T ρ ls st S cl cs hp) :
    ∃ (x : Int32) (a : Nat) (ws : List Value) (w : Value), cs = .int x :: .ref a :: ws ∧ a < n ∧ amALd t (bKp t) hp cs = some (w :: ws) ∧ ∃ g ∈ L, ∃ ρ', ρ <+: ρ' ∧ g.1 = pc ∧ bRel n T ρ' g.2.1 g.2.2.1 g.2.2.2 cl (w :: ws) hp ∧ bFr W hp hp := by
  unfold bAldA at e
  split at e
  · next i l r =>
    obtain ⟨w, ws, rfl, hv, hs⟩ := bRs_cons hr.2.1
    obtain ⟨w2, ws, rfl, hv2, hs2⟩ := bRs_cons hs
    obtain ⟨a, rfl, ha, hal⟩ := hv2
    split at e
    · next q eq =>
      obtain ⟨x, rfl, hx⟩ := bIv_s hr.2.2.1.1 eq hv
      split at e
      · cases e
      · next c l' =>
        split at e
        · next y ey =>
          split at e
          · next ek =>
            split at e
            · next ea =>
              have : ∃ y', bElt T false t q a = some y' ∧ ∀ w, bYr n y' w → bYr n y w := by
                cases hal with
                | head => exact ⟨y, ey, fun _ z => z⟩
                | tail _ hal =>
                  have := lAll_m ea a hal
                  split at this
                  · next y' e' => exact ⟨y', e', fun _ z => bYle_s this z⟩
                  · cases this
              obtain ⟨y', e1, e2⟩ := this
              obtain ⟨D, d, h0, h1, h2, h3, h4, y2, h5, h6, -⟩ := bElt_s e1 hr.2.2.2 ha hx
              obtain ⟨y3, g1, g2⟩ := h2.2.2 x.toNatClampNeg _ (List.getElem?_eq_getElem h3)
              rw [h5] at g1
              cases g1
              have g3 := e2 _ (h6 _ g2)
              obtain ⟨ρ', k1, k2, k3⟩ := bOfY_s (n := n) hr.2.2.1.1 g3
              split at e
              next v E' ev =>
              rw [ev] at k2 k3
              cases e
              have hgd : d.getD x.toNatClampNeg .null = d[x.toNatClampNeg] := by
                rw [List.getD_eq_getElem?_getD, List.getElem?_eq_getElem h3]; rfl
              refine ⟨x, a, ws, d[x.toNatClampNeg], rfl, ha, ?_, bOne rfl k1 (bRl_mono k1 hr.1) ⟨k3, bRs_mono k1 hs2⟩ (bRS_ext k1 hr.2.2.1 k2) hr.2.2.2 (bFr.refl _ _)⟩
              simp only [amALd, h1, hgd, h4, bKy_s ek g3, and_self, if_true]
            · cases e
          · cases e
        · cases e
    · cases e
  · cases e
theorem bAldA_ok {pc t : Nat} : bOk n T W (bAldA T pc t) (fun ls st hp => (amALd t (bKp t) hp st).map (fun s => (pc, ls, s, hp))) := by
  intro ls st S L ρ cl cs hp e hr
  obtain ⟨x, a, ws, w, -, -, h1, h2⟩ := bAldA_k (W := W) e hr
  exact ⟨(pc, cl, w :: ws, hp), by dsimp only; rw [h1]; rfl, h2⟩
theorem bAldA_okI {pc : Nat} {sc : Option (List Int32)} (hn : n ≤ 999999) : bOk n T W (bAldA T pc 32) (fun ls st hp => match amSc sc st with
    | some s => some (pc, ls, s, hp)
    | none => (amALd 32 amIsI hp st).map (fun s => (pc, ls, s, hp))) := by
  intro ls st S L ρ cl cs hp e hr
  obtain ⟨x, a, ws, w, rfl, ha, h1, h2⟩ := bAldA_k (W := W) e hr
  refine ⟨(pc, cl, w :: ws, hp), ?_, h2⟩
  dsimp only
  rw [amSc_none (fun z => by unfold amS at z; omega)]
  dsimp only
  rw [show amIsI = bKp 32 from rfl, h1]
  rfl
def bFno (F : bF) (l : List Nat) : Bool := match F with
  | [] => true
  | f :: r => (match lHas l f.1 with
    | true => false
    | false => bFno r l)
theorem lHas_t : ∀ {l : List Nat} {i : Nat}, i ∈ l → lHas l i = true
  | j :: r, i, h => by
    unfold lHas
    split
    · rfl
    · next e =>
      cases h with
      | head => simp at e
      | tail _ h => exact lHas_t h
theorem bFno_s : ∀ {F : bF} {l : List Nat}, bFno F l = true → ∀ f ∈ F, ∀ c ∈ l, ¬ f.1 = c
  | g :: r, l, h, f, hf, c, hc => by
    unfold bFno at h
    split at h
    · cases h
    · next e =>
      cases hf with
      | head => intro z; rw [z, lHas_t hc] at e; cases e
      | tail _ hf => exact bFno_s h f hf c hc
/-- a row written: what is written is of the row's type (or made to be a byte) -/
def bAstA (T : Nat → Option bD) (W : List (Nat × Nat)) (pc t : Nat) (byt : Bool) (chk : List Nat → Bool) : bA := fun ls st S => match st with
  | v :: i :: .inr (.inr (.inr l)) :: r => (match bIv S.1 i with
    | some q => (match lAll (fun c => match bIn W c 999 with
        | true => (match bElt T true t q c with
          | some y => (match bKy t y with
            | true => (match byt with
              | true => (match bIsI v with
                | true => bYle (.inl (2147483520, 2147483775)) y
                | false => false)
              | false => bLe S.1 v y)
            | false => false)
          | none => false)
        | false => false) l with
      | true => (match bFno S.2.1 l with
        | true => (match v with
          | .inr (.inr (.inr m)) => (match chk m with
            | true => some [(pc, ls, r, S)]
            | false => none)
          | _ => some [(pc, ls, r, S)])
        | false => none)
      | false => none)
    | none => none)
  | _ => none
theorem bNarB_s (x : Int32) : ∃ z, amNarB (.int x) = .int z ∧ 2147483520 ≤ aOff z ∧ aOff z ≤ 2147483775 := by
  refine ⟨vp_nar .byte x, rfl, ?_⟩
  have h := aNarB_s (v := aFull) (w := .int x) (aFull_s x)
  obtain ⟨z, ez, h1, h2⟩ := h
  have ez : vp_nar .byte x = z := by cases ez; rfl
  rw [ez]
  exact bIn_off.mp ⟨h1, h2⟩
def bGv (byt : Bool) : Value → Value := match byt with
  | true => amNarB
  | false => id
theorem bAstA_ok {pc t : Nat} {byt : Bool} {chk : List Nat → Bool} {p' : amH → Value → Bool} (hp' : ∀ (ρ : List Nat) (hp : amH) (v : bV) (y : bY) (w : Value), bHk n T hp → bR n ρ v w → bKy t y = true → (byt = false → bYr n y w ∧ ∃ E, bLe E v y = true) → (byt = true → ∃ x, w = .int x) → (∀ m, v = .inr (.inr (.inr m)) → chk m = true) → p' hp w = true) :
    bOk n T W (bAstA T W pc t byt chk) (fun ls st hp => (amASt t (p' hp) (bGv byt) hp st).map (fun q => (pc, ls, q.1, q.2))) := by
  intro ls st S L ρ cl cs hp e hr
  unfold bAstA at e
  split at e
  · next v i l r =>
    obtain ⟨w, ws, rfl, hv, hs⟩ := bRs_cons hr.2.1
    obtain ⟨w2, ws, rfl, hv2, hs2⟩ := bRs_cons hs
    obtain ⟨w3, ws, rfl, hv3, hs3⟩ := bRs_cons hs2
    obtain ⟨a, rfl, ha, hal⟩ := hv3
    split at e
    · next q eq =>
      obtain ⟨x, rfl, hx⟩ := bIv_s hr.2.2.1.1 eq hv2
      split at e
      · next ea =>
       split at e
       · next eF =>
        have h0 := lAll_m ea a hal
        have hL : L = [(pc, ls, r, S)] ∧ ∀ m, v = .inr (.inr (.inr m)) → chk m = true := by
          split at e
          · next m =>
            split at e
            · next ec => cases e; exact ⟨rfl, fun m' z => by cases z; exact ec⟩
            · cases e
          · next hne => cases e; exact ⟨rfl, fun m z => absurd z (hne m)⟩
        obtain ⟨rfl, hchk⟩ := hL
        split at h0
        · next eW =>
          split at h0
          · next y ey =>
            split at h0
            · next ek =>
              obtain ⟨D, d, hD, h1, h2, h3, h4, y2, h5, h6, h7⟩ := bElt_s ey hr.2.2.2 ha hx
              have h7 := h7 rfl
              subst h7
              have key : bYr n y2 (bGv byt w) ∧ (byt = false → bYr n y2 w ∧ ∃ E, bLe E v y2 = true) ∧ (byt = true → ∃ x, w = .int x) := by
                split at h0
                · split at h0
                  · next ei =>
                    obtain ⟨z, rfl⟩ := bIsI_s ei hv
                    obtain ⟨u, hu, hu2⟩ := bNarB_s z
                    refine ⟨?_, fun z => by (cases z), fun _ => ⟨z, rfl⟩⟩
                    show bYr n y2 (amNarB (.int z))
                    rw [hu]
                    exact bYle_s (x := .inl (2147483520, 2147483775)) h0 ⟨u, rfl, hu2⟩
                  · cases h0
                · have := bLe_s hr.2.2.1.1 h0 hv
                  exact ⟨this, fun _ => ⟨this, _, h0⟩, fun z => by (cases z)⟩
              have hpw := hp' ρ hp v y2 w hr.2.2.2 hv ek key.2.1 key.2.2 hchk
              refine ⟨(pc, cl, ws, hp.set a (t, d.set x.toNatClampNeg (bGv byt w))), ?_, bOne rfl (List.prefix_refl _) hr.1 hs3 ⟨hr.2.2.1.1, fun f hf => ?_, hr.2.2.1.2.2⟩ (bHk_set hr.2.2.2 hD (bHc_set h2 h5 key.1)) (bFr_set (d := (t, d)) h1 (bIn_all eW _))⟩
              · simp only [amASt, h1, h4, hpw, and_self, if_true, Option.map_some]
              · obtain ⟨u, g1, g2⟩ := hr.2.2.1.2.1 f hf
                refine ⟨u, ?_, g2⟩
                rw [bFld_set h1, if_neg (bFno_s eF f hf a hal)]
                exact g1
            · cases h0
          · cases h0
        · cases h0
       · cases e
      · cases e
    · cases e
  · cases e
def bIsSn (T : Nat → Option bD) (m : List Nat) : Bool := lAll (fun c => match T c with
  | some D => Nat.beq D.1 6
  | none => false) m
def bLenA (T : Nat → Option bD) (pc : Nat) : bA := fun ls st S => match st with
  | .inr (.inr (.inr l)) :: r => (match l with
    | [] => none
    | c :: l' => (match T c with
      | some D => (match Nat.ble D.2.1 100000 with
        | true => (match lAll (fun d => match T d with
            | some D' => (match Nat.ble 32 D'.1 with
              | true => (match Nat.ble D'.1 35 with
                | true => Nat.beq D'.2.1 D.2.1
                | false => false)
              | false => false)
            | none => false) (c :: l') with
          | true => some [(pc, ls, .inl (Nat.add D.2.1 2147483648) :: r, S)]
          | false => none)
        | false => none)
      | none => none))
  | _ => none
theorem amScLen_none {sc : Option (List Int32)} {o : Nat} {r : List Value} (h : ¬ o = amS) : amScLen sc (.ref o :: r) = none := by
  unfold amScLen
  cases sc <;> simp [h]
theorem bLenA_ok {pc : Nat} {sc : Option (List Int32)} (hn : n ≤ 999999) : bOk n T W (bLenA T pc) (fun ls st hp => match amScLen sc st with
    | some s => some (pc, ls, s, hp)
    | none => (amLen hp st).map (fun s => (pc, ls, s, hp))) := by
  intro ls st S L ρ cl cs hp e hr
  unfold bLenA at e
  split at e
  · next l r =>
    obtain ⟨w, ws, rfl, hv, hs⟩ := bRs_cons hr.2.1
    obtain ⟨a, rfl, ha, hal⟩ := hv
    split at e
    · cases e
    · next c l' =>
      split at e
      · next D eD =>
        split at e
        · next ek =>
          split at e
          · next ea =>
            cases e
            have h0 := lAll_m ea a hal
            split at h0
            · next D' eD' =>
              split at h0
              · next e1 =>
                split at h0
                · next e2 =>
                  have h0 := Nat.eq_of_beq_eq_true h0
                  obtain ⟨d, h1, h2⟩ := bHk_at hr.2.2.2 ha eD'
                  have hlen : d.2.length = D.2.1 := by rw [h2.2.1, h0]
                  have hx : aOff (Int32.ofNat d.2.length) = Nat.add D.2.1 2147483648 := by
                    obtain ⟨x, ex, x1, x2⟩ := a_ofNat (n := d.2.length) (by rw [hlen]; exact a_le ek)
                    cases ex
                    have := bIn_off.mp ⟨x1, x2⟩
                    rw [← hlen]
                    exact Nat.le_antisymm this.2 this.1
                  refine ⟨(pc, cl, .int (Int32.ofNat d.2.length) :: ws, hp), ?_, bOne rfl (List.prefix_refl _) hr.1 ⟨⟨_, rfl, hx⟩, hs⟩ hr.2.2.1 hr.2.2.2 (bFr.refl _ _)⟩
                  dsimp only
                  rw [amScLen_none (fun z => absurd (z ▸ ha : amS < n) (by unfold amS; omega))]
                  have g1 : 32 ≤ d.1 := by rw [h2.1]; exact a_le e1
                  have g2 : d.1 ≤ 35 := by rw [h2.1]; exact a_le e2
                  simp only [amLen, h1, g1, g2, and_self, if_true, Option.map_some]
                · cases h0
              · cases h0
            · cases h0
          · cases e
        · cases e
      · cases e
  · cases e
/-- a row copied into another -/
def bCpT (T : Nat → Option bD) (W : List (Nat × Nat)) (p q r : Nat × Nat) (a0 a : Nat) : Bool := match T a0 with
  | some D0 => (match T a with
    | some D1 => (match D0.2.2 with
      | [y0] => (match D1.2.2 with
        | [y1] => (((Nat.beq D0.1 32 && Nat.beq D1.1 32) && (Nat.ble 2147483648 p.1 && Nat.ble 2147483648 q.1)) && (Nat.ble 2147483648 r.1 && (Nat.ble (Nat.add (bDn p.2) (bDn r.2)) D0.2.1 && Nat.ble (Nat.add (bDn q.2) (bDn r.2)) D1.2.1))) && (bYle y0 y1 && bIn W a 999)
        | _ => false)
      | _ => false)
    | none => false)
  | none => false
theorem bCpT_s {p q r : Nat × Nat} {a0 a : Nat} (h : bCpT T W p q r a0 a = true) : ∃ D0 D1 y0 y1, T a0 = some D0 ∧ T a = some D1 ∧ D0.2.2 = [y0] ∧ D1.2.2 = [y1] ∧ D0.1 = 32 ∧ D1.1 = 32 ∧ 2147483648 ≤ p.1 ∧ 2147483648 ≤ q.1 ∧ 2147483648 ≤ r.1 ∧ bDn p.2 + bDn r.2 ≤ D0.2.1 ∧ bDn q.2 + bDn r.2 ≤ D1.2.1 ∧ bYle y0 y1 = true ∧ bIn W a 999 = true := by
  unfold bCpT at h
  split at h
  · next D0 e0 =>
    split at h
    · next D1 e1 =>
      split at h
      · next y0 e2 =>
        split at h
        · next y1 e3 =>
          simp only [Bool.and_eq_true] at h
          obtain ⟨⟨⟨⟨c1, c2⟩, c3, c4⟩, c5, c6, c7⟩, c8, c9⟩ := h
          exact ⟨D0, D1, y0, y1, e0, e1, e2, e3, Nat.eq_of_beq_eq_true c1, Nat.eq_of_beq_eq_true c2, a_le c3, a_le c4, a_le c5, a_le c6, a_le c7, c8, c9⟩
        · cases h
      · cases h
    · cases h
  · cases h
def bCpyA (T : Nat → Option bD) (W : List (Nat × Nat)) (pc : Nat) : bA := fun ls st S => match st with
  | k :: dp :: .inr (.inr (.inr l)) :: sp :: .inr (.inr (.inr l0)) :: r => (match bIv S.1 sp with
    | some p => (match bIv S.1 dp with
      | some q => (match bIv S.1 k with
        | some z => (match lAll (fun a0 => lAll (fun a => bCpT T W p q z a0 a) l) l0 with
          | true => (match bFno S.2.1 l with
            | true => (match Nat.ble (bCs r) 8 with
              | true => some [(pc, ls, r, S)]
              | false => none)
            | false => none)
          | false => none)
        | none => none)
      | none => none)
    | none => none)
  | _ => none
theorem bCpyA_ok {pc : Nat} {cf : amL → List Value → amH → Option amR} (hcf : ∀ ls st hp r, amCopy pc ls hp st = some (.inl (r, 0, 0)) → cf ls st hp = some r) : bOk n T W (bCpyA T W pc) cf := by
  intro ls st S L ρ cl cs hp e hr
  unfold bCpyA at e
  split at e
  · next k dp l sp l0 r =>
    obtain ⟨w1, ws, rfl, hv1, hs⟩ := bRs_cons hr.2.1
    obtain ⟨w2, ws, rfl, hv2, hs2⟩ := bRs_cons hs
    obtain ⟨w3, ws, rfl, hv3, hs3⟩ := bRs_cons hs2
    obtain ⟨w4, ws, rfl, hv4, hs4⟩ := bRs_cons hs3
    obtain ⟨w5, ws, rfl, hv5, hs5⟩ := bRs_cons hs4
    obtain ⟨a, rfl, ha, hal⟩ := hv3
    obtain ⟨a0, rfl, ha0, hal0⟩ := hv5
    split at e
    · next p ep =>
      split at e
      · next q eq =>
        split at e
        · next z ez =>
          split at e
          · next ea =>
            split at e
            · next eF =>
              split at e
              · next e8 =>
                cases e
                obtain ⟨xs, rfl, hxs⟩ := bIv_s hr.2.2.1.1 ep hv4
                obtain ⟨xd, rfl, hxd⟩ := bIv_s hr.2.2.1.1 eq hv2
                obtain ⟨xk, rfl, hxk⟩ := bIv_s hr.2.2.1.1 ez hv1
                obtain ⟨D0, D1, y0, y1, t0, t1, d0, d1, k0, k1, b1, b2, b3, b4, b5, b6, b7⟩ := bCpT_s (lAll_m (lAll_m ea a0 hal0) a hal)
                obtain ⟨c0, g0, hc0⟩ := bHk_at hr.2.2.2 ha0 t0
                obtain ⟨c1, g1, hc1⟩ := bHk_at hr.2.2.2 ha t1
                have nn : ∀ {x : Int32} {u : Nat × Nat}, aIn u.1 u.2 x → 2147483648 ≤ u.1 → ¬ x < 0 ∧ x.toNatClampNeg ≤ bDn u.2 := by
                  intro x u hx hu
                  have hx := bIn_off.mp hx
                  have ax := aOff_eq x
                  have b := bDn_eq u.2
                  have hxn : (x.toNatClampNeg : Int) = x.toInt := by
                    have : x.toNatClampNeg = x.toInt.toNat := rfl
                    rw [this]
                    omega
                  refine ⟨fun z => ?_, by omega⟩
                  have := Int32.lt_iff_toInt_lt.mp z
                  have z0 : (0 : Int32).toInt = 0 := by decide
                  omega
                obtain ⟨s1, s2⟩ := nn hxs b1
                obtain ⟨s3, s4⟩ := nn hxd b2
                obtain ⟨s5, s6⟩ := nn hxk b3
                have l0 : xs.toNatClampNeg + xk.toNatClampNeg ≤ c0.2.length := by rw [hc0.2.1]; omega
                have l1 : xd.toNatClampNeg + xk.toNatClampNeg ≤ c1.2.length := by rw [hc1.2.1]; omega
                have q0 : c0.1 = 32 := by rw [hc0.1, k0]
                have q1 : c1.1 = 32 := by rw [hc1.1, k1]
                have hsum : (ws.map fun v => v.category).sum ≤ 8 := by rw [bRs_cat hs5]; exact a_le e8
                have hdo : amCopy pc cl hp (.int xk :: .int xd :: .ref a :: .int xs :: .ref a0 :: ws) = some (.inl ((pc, cl, ws, hp.set a (32, c1.2.take xd.toNatClampNeg ++ ((c0.2.drop xs.toNatClampNeg).take xk.toNatClampNeg ++ c1.2.drop (xd.toNatClampNeg + xk.toNatClampNeg)))), 0, 0)) := by
                  simp only [amCopy, g0, g1]
                  rw [if_pos ⟨q0, q1, s1, s3, s5, l0, l1, hsum⟩]
                have hy0 : ∀ u ∈ c0.2, bYr n y1 u := by
                  intro u hu
                  obtain ⟨i, hi, e⟩ := List.getElem_of_mem hu
                  obtain ⟨y, g2, g3⟩ := hc0.2.2 i u (by rw [List.getElem?_eq_getElem hi, e])
                  unfold bDy at g2
                  rw [k0, d0] at g2
                  cases g2
                  exact bYle_s b6 g3
                have hy1 : ∀ u ∈ c1.2, bYr n y1 u := by
                  intro u hu
                  obtain ⟨i, hi, e⟩ := List.getElem_of_mem hu
                  obtain ⟨y, g2, g3⟩ := hc1.2.2 i u (by rw [List.getElem?_eq_getElem hi, e])
                  unfold bDy at g2
                  rw [k1, d1] at g2
                  cases g2
                  exact g3
                refine ⟨_, hcf _ _ _ _ hdo, bOne rfl (List.prefix_refl _) hr.1 hs5 ⟨hr.2.2.1.1, fun f hf => ?_, hr.2.2.1.2.2⟩ (bHk_set hr.2.2.2 t1 ⟨k1.symm, ?_, fun j u hu => ⟨y1, ?_, ?_⟩⟩) (fun i j hij => ?_)⟩
                · obtain ⟨u, g2, g3⟩ := hr.2.2.1.2.1 f hf
                  refine ⟨u, ?_, g3⟩
                  dsimp only
                  rw [bFld_set g1, if_neg (bFno_s eF f hf a hal)]
                  exact g2
                · have := hc1.2.1
                  simp only [List.length_append, List.length_take, List.length_drop]
                  omega
                · unfold bDy
                  rw [k1, d1]
                  rfl
                · have hm := List.mem_of_getElem? hu
                  rcases List.mem_append.mp hm with hm | hm
                  · exact hy1 _ (List.mem_of_mem_take hm)
                  · rcases List.mem_append.mp hm with hm | hm
                    · exact hy0 _ (List.mem_of_mem_drop (List.mem_of_mem_take hm))
                    · exact hy1 _ (List.mem_of_mem_drop hm)
                · dsimp only
                  rw [bFld_set g1]
                  split
                  · next z =>
                    subst z
                    rw [bIn_all b7] at hij
                    cases hij
                  · rfl
              · cases e
            · cases e
          · cases e
        · cases e
      · cases e
    · cases e
  · cases e
end BRW
