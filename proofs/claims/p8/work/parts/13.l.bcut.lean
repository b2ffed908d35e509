/-! ===== runs over invariants: places where runs are cut, measures; a method's check ===== -/
abbrev bPl : Type := Nat ⊕ (Nat × Nat)
abbrev bRl2 : Type := bPl × Nat × bPl
abbrev bMe : Type := Nat × Nat × Nat
abbrev bCu : Type := Nat × List (Option bY) × List bFa × List bRl2 × List bMe
def bPlC (cl : amL) (hp : amH) : bPl → Option Value
  | .inl k => amGet cl k
  | .inr q => bFld hp q.1 q.2
def bPlV (ls : bL) (F : bF) : bPl → Option bV
  | .inl k => bGet ls k
  | .inr q => bFget F q.1 q.2
def bOffV : Option Value → Nat
  | some (.int x) => aOff x
  | _ => 0
def bCuR (n : Nat) (c : bCu) (cl : amL) (hp : amH) : Prop := amOkL n cl = true ∧ (∀ k y, lAt c.2.1 k = some (some y) → ∃ w, amGet cl k = some w ∧ bYr n y w) ∧ bFacts hp c.2.2.1 ∧ (∀ r ∈ c.2.2.2.1, ∃ x y : Int32, bPlC cl hp r.1 = some (.int x) ∧ bPlC cl hp r.2.2 = some (.int y) ∧ aOff x + r.2.1 ≤ aOff y)
def bShN (v : bV) (d : Nat) : bV := match v with
  | .inl k => .inl (Nat.add k d)
  | .inr (.inl q) => .inr (.inl (q.1, Nat.add q.2 d))
  | v => v
theorem bShN_s {ρ : List Nat} {v : bV} {a d : Nat} (h : bNum ρ v = some a) : bNum ρ (bShN v d) = some (a + d) := by
  match v, h with
  | .inl k, h =>
    have h := Option.some.inj h
    subst h
    show some (k + d + bB) = some (k + bB + d)
    rw [Nat.add_right_comm]
  | .inr (.inl q), h =>
    simp only [bNum, bShN] at h ⊢
    split at h
    · next r e =>
      have h := Option.some.inj h
      subst h
      show some (r + (q.2 + d)) = some (r + q.2 + d)
      rw [Nat.add_assoc]
    · cases h
/-! the state at a cut -/
def bStL (E : bE) : List (Option bY) → bL × bE
  | [] => ([], E)
  | none :: r => (match bStL E r with
    | (ls, E') => (none :: ls, E'))
  | some y :: r => (match bOfY E y with
    | (v, E1) => (match bStL E1 r with
      | (ls, E') => (some v :: ls, E')))
def bStR (ls : bL) (F : bF) : List bRl2 → Option bRt
  | [] => some []
  | r :: rs => (match bPlV ls F r.1 with
    | some u => (match bPlV ls F r.2.2 with
      | some v => (match bStR ls F rs with
        | some R => some ((bShN u r.2.1, v) :: R)
        | none => none)
      | none => none)
    | none => none)
def bSta (c : bCu) : Option (bL × bS) := match bStL [] c.2.1 with
  | (ls, E) => (match bAddF E [] c.2.2.1 with
    | (E', F) => (match bStR ls F c.2.2.2.1 with
      | some R => some (ls, E', F, R, [])
      | none => none))
section BCU
variable {n : Nat} {T : Nat → Option bD}
theorem bStL_s : ∀ {ys : List (Option bY)} {ρ : List Nat} {E : bE} {g : Nat → Option Value}, bRE ρ E → (∀ k y, lAt ys k = some (some y) → ∃ w, g k = some w ∧ bYr n y w) → ∃ ρ', ρ <+: ρ' ∧ bRE ρ' (bStL E ys).2 ∧ ∀ k v, bGet (bStL E ys).1 k = some v → ∃ w, g k = some w ∧ bR n ρ' v w
  | [], ρ, E, g, hE, _ => ⟨ρ, List.prefix_refl _, hE, fun k v h => by cases h⟩
  | none :: r, ρ, E, g, hE, h => by
    obtain ⟨ρ', h1, h2, h3⟩ := bStL_s (ys := r) (g := fun k => g (k + 1)) hE (fun k y e => h (k + 1) y e)
    refine ⟨ρ', h1, ?_, fun k v e => ?_⟩
    · unfold bStL; exact h2
    · unfold bStL at e
      match k, e with
      | 0, e => cases e
      | k + 1, e => exact h3 k v e
  | some y :: r, ρ, E, g, hE, h => by
    obtain ⟨w, w1, w2⟩ := h 0 y rfl
    obtain ⟨ρ1, g1, g2, g3⟩ := bOfY_s (n := n) hE w2
    obtain ⟨ρ', h1, h2, h3⟩ := bStL_s (ys := r) (g := fun k => g (k + 1)) g2 (fun k y e => h (k + 1) y e)
    refine ⟨ρ', g1.trans h1, ?_, fun k v e => ?_⟩
    · unfold bStL; exact h2
    · unfold bStL at e
      match k, e with
      | 0, e => cases e; exact ⟨w, w1, bR_mono h1 g3⟩
      | k + 1, e => exact h3 k v e
theorem bPl_s {ρ : List Nat} {ls : bL} {F : bF} {cl : amL} {hp : amH} (hl : ∀ k v, bGet ls k = some v → ∃ w, amGet cl k = some w ∧ bR n ρ v w) (hF : ∀ f ∈ F, ∃ w, bFld hp f.1 f.2.1 = some w ∧ bR n ρ f.2.2 w) {p : bPl} {v : bV} (h : bPlV ls F p = some v) : ∃ w, bPlC cl hp p = some w ∧ bR n ρ v w := by
  match p, h with
  | .inl k, h => exact hl k v h
  | .inr q, h => exact hF _ (bFget_s h)
theorem bStR_s {ρ : List Nat} {ls : bL} {F : bF} {cl : amL} {hp : amH} (hl : ∀ k v, bGet ls k = some v → ∃ w, amGet cl k = some w ∧ bR n ρ v w) (hF : ∀ f ∈ F, ∃ w, bFld hp f.1 f.2.1 = some w ∧ bR n ρ f.2.2 w) :
    ∀ {rs : List bRl2} {R : bRt}, bStR ls F rs = some R → (∀ r ∈ rs, ∃ x y : Int32, bPlC cl hp r.1 = some (.int x) ∧ bPlC cl hp r.2.2 = some (.int y) ∧ aOff x + r.2.1 ≤ aOff y) → ∀ r ∈ R, ∃ a b, bNum ρ r.1 = some a ∧ bNum ρ r.2 = some b ∧ a ≤ b
  | [], R, h, _ => by cases h; intro r hr; cases hr
  | r :: rs, R, h, hr => by
    unfold bStR at h
    split at h
    · next u eu =>
      split at h
      · next v ev =>
        split at h
        · next R' eR =>
          cases h
          obtain ⟨x, y, h1, h2, h3⟩ := hr r List.mem_cons_self
          obtain ⟨w, w1, w2⟩ := bPl_s hl hF eu
          rw [h1] at w1
          cases w1
          obtain ⟨w', w3, w4⟩ := bPl_s hl hF ev
          rw [h2] at w3
          cases w3
          intro z hz
          cases hz with
          | head => exact ⟨_, _, bShN_s (bNum_s w2), bNum_s w4, by omega⟩
          | tail _ hz => exact bStR_s hl hF eR (fun r h => hr r (List.mem_cons_of_mem _ h)) z hz
        · cases h
      · cases h
    · cases h
theorem bSta_s {c : bCu} {ls : bL} {S : bS} (h : bSta c = some (ls, S)) {cl : amL} {hp : amH} (hc : bCuR n c cl hp) (hH : bHk n T hp) : ∃ ρ, bRel n T ρ ls [] S cl [] hp := by
  obtain ⟨ρ1, -, h2, h3⟩ := bStL_s (n := n) (ρ := []) (E := []) (g := amGet cl) ⟨rfl, fun i a b e => by cases e⟩ hc.2.1
  unfold bSta at h
  split at h
  next ls1 E1 e1 =>
  rw [e1] at h2 h3
  obtain ⟨ρ2, k1, k2, k3⟩ := bAddF_s (n := n) (F := []) (hp := hp) h2 (fun f hf => by cases hf) hc.2.2.1
  split at h
  next E2 F e2 =>
  rw [e2] at k2 k3
  have h3' : ∀ k v, bGet ls1 k = some v → ∃ w, amGet cl k = some w ∧ bR n ρ2 v w := fun k v e => (h3 k v e).imp fun _ z => ⟨z.1, bR_mono k1 z.2⟩
  split at h
  · next R eR =>
    cases h
    exact ⟨ρ2, ⟨h3', hc.1⟩, trivial, ⟨k2, k3, bStR_s h3' k3 eR hc.2.2.2, fun m hm => by cases hm⟩, hH⟩
  · cases h
end BCU
/-! what is known of two numbers -/
def bRlK (u v : bV) : bRt → Bool
  | [] => false
  | r :: R => (match u with
    | .inr (.inl p) => (match v with
      | .inr (.inl q) => (match r.1 with
        | .inr (.inl p') => (match r.2 with
          | .inr (.inl q') => (match Nat.beq p.1 p'.1 with
            | true => (match Nat.beq q.1 q'.1 with
              | true => (match Nat.ble (Nat.add p.2 q'.2) (Nat.add q.2 p'.2) with
                | true => true
                | false => bRlK u v R)
              | false => bRlK u v R)
            | false => bRlK u v R)
          | _ => bRlK u v R)
        | _ => bRlK u v R)
      | _ => false)
    | _ => false)
def bSame (u v : bV) : Bool := match u with
  | .inr (.inl p) => (match v with
    | .inr (.inl q) => (match Nat.beq p.1 q.1 with
      | true => Nat.ble p.2 q.2
      | false => false)
    | _ => false)
  | _ => false
def bRlC (S : bS) (u v : bV) : Bool := match bSame u v with
  | true => true
  | false => (match bIvN S.1 u with
    | some p => (match bIvN S.1 v with
      | some q => (match Nat.ble p.2 q.1 with
        | true => true
        | false => bRlK u v S.2.2.1)
      | none => false)
    | none => false)
theorem bRlK_s {ρ : List Nat} {u v : bV} {a b : Nat} (hu : bNum ρ u = some a) (hv : bNum ρ v = some b) : ∀ {R : bRt}, bRlK u v R = true → (∀ r ∈ R, ∃ a b, bNum ρ r.1 = some a ∧ bNum ρ r.2 = some b ∧ a ≤ b) → a ≤ b
  | r :: R, h, hR => by
    have ih := fun z => bRlK_s hu hv (R := R) z (fun r h => hR r (List.mem_cons_of_mem _ h))
    unfold bRlK at h
    split at h
    · next p =>
      split at h
      · next q =>
        split at h
        · next p' e1 =>
          split at h
          · next q' e2 =>
            split at h
            · next e3 =>
              split at h
              · next e4 =>
                split at h
                · next e5 =>
                  have e3 := Nat.eq_of_beq_eq_true e3
                  have e4 := Nat.eq_of_beq_eq_true e4
                  have e5 : p.2 + q'.2 ≤ q.2 + p'.2 := a_le e5
                  obtain ⟨a', b', g1, g2, g3⟩ := hR r List.mem_cons_self
                  rw [e1] at g1
                  rw [e2] at g2
                  simp only [bNum] at hu hv g1 g2
                  rw [← e3] at g1
                  rw [← e4] at g2
                  split at hu
                  · next x ex =>
                    split at hv
                    · next y ey =>
                      rw [ex] at g1
                      rw [ey] at g2
                      have hu := Option.some.inj hu
                      have hv := Option.some.inj hv
                      have g1 := Option.some.inj g1
                      have g2 := Option.some.inj g2
                      omega
                    · cases hv
                  · cases hu
                · exact ih h
              · exact ih h
            · exact ih h
          · exact ih h
        · exact ih h
      · cases h
    · cases h
theorem bSame_s {ρ : List Nat} {u v : bV} {a b : Nat} (h : bSame u v = true) (hu : bNum ρ u = some a) (hv : bNum ρ v = some b) : a ≤ b := by
  unfold bSame at h
  split at h
  · next p =>
    split at h
    · next q =>
      split at h
      · next e =>
        have e := Nat.eq_of_beq_eq_true e
        have h := a_le h
        simp only [bNum] at hu hv
        rw [e] at hu
        split at hv
        · next r e2 =>
          rw [e2] at hu
          have hu := Option.some.inj hu
          have hv := Option.some.inj hv
          omega
        · cases hv
      · cases h
    · cases h
  · cases h
theorem bRlC_s {n : Nat} {ρ : List Nat} {S : bS} {hp : amH} (hS : bRS n ρ S hp) {u v : bV} {a b : Nat} (h : bRlC S u v = true) (hu : bNum ρ u = some a) (hv : bNum ρ v = some b) : a ≤ b := by
  unfold bRlC at h
  split at h
  · next e => exact bSame_s e hu hv
  · split at h
    · next p ep =>
      split at h
      · next q eq =>
        split at h
        · next e =>
          have h1 := bIvN_s hS.1 ep hu
          have h2 := bIvN_s hS.1 eq hv
          have h3 := a_le e
          omega
        · exact bRlK_s hu hv h hS.2.2.1
      · cases h
    · cases h
/-! measures -/
def bM33 : Nat := 8589934591
def bMu (cl : amL) (hp : amH) (m : bMe) : Nat := match m.1 with
  | 0 => min m.2.1 bM33
  | 1 => 4294967296 - bOffV (amGet cl m.2.1)
  | 2 => min (bOffV (amGet cl m.2.1)) 4294967296
  | 3 => 4294967296 - bOffV (bFld hp m.2.1 m.2.2)
  | _ => min (bOffV (bFld hp m.2.1 m.2.2)) 4294967296
theorem bMu_le (cl : amL) (hp : amH) (m : bMe) : bMu cl hp m ≤ bM33 := by
  unfold bMu bM33
  split <;> omega
def bEnc : List Nat → Nat
  | [] => 0
  | m :: r => m * 8589934592 ^ r.length + bEnc r
theorem bEnc_lt : ∀ {l : List Nat}, (∀ m ∈ l, m ≤ bM33) → bEnc l < 8589934592 ^ l.length
  | [], _ => by show 0 < 8589934592 ^ 0; exact Nat.pow_pos (by omega)
  | m :: r, h => by
    have h1 := bEnc_lt (l := r) (fun m hm => h m (List.mem_cons_of_mem _ hm))
    have h2 : m ≤ 8589934591 := h m List.mem_cons_self
    show m * 8589934592 ^ r.length + bEnc r < 8589934592 ^ (r.length + 1)
    rw [Nat.pow_succ]
    generalize 8589934592 ^ r.length = z at h1 ⊢
    have h3 : m * z ≤ 8589934591 * z := Nat.mul_le_mul_right _ h2
    omega
/-- less, by the first that differs -/
def bLex : List Nat → List Nat → Prop
  | a :: r, b :: s => a < b ∨ (a = b ∧ bLex r s)
  | _, _ => False
theorem bEnc_lex : ∀ {l k : List Nat}, bLex l k → l.length = k.length → (∀ m ∈ l, m ≤ bM33) → (∀ m ∈ k, m ≤ bM33) → bEnc l < bEnc k
  | a :: r, b :: s, h, hl, h1, h2 => by
    have hl2 : r.length = s.length := by simpa using hl
    show a * 8589934592 ^ r.length + bEnc r < b * 8589934592 ^ s.length + bEnc s
    rcases h with h | ⟨h, h3⟩
    · have g1 := bEnc_lt (l := r) (fun m hm => h1 m (List.mem_cons_of_mem _ hm))
      rw [hl2] at g1 ⊢
      generalize 8589934592 ^ s.length = z at g1 ⊢
      have g2 : (a + 1) * z ≤ b * z := Nat.mul_le_mul_right _ h
      rw [Nat.succ_mul] at g2
      omega
    · have g1 := bEnc_lex h3 hl2 (fun m hm => h1 m (List.mem_cons_of_mem _ hm)) (fun m hm => h2 m (List.mem_cons_of_mem _ hm))
      rw [h, hl2]
      omega
/-- 0: less; 1: the same; 2: not known -/
def bMvC (up : Bool) (u v : bV) : Nat := match bVq u v with
  | true => 1
  | false => (match u with
    | .inr (.inl p) => (match v with
      | .inr (.inl q) => (match Nat.beq p.1 q.1 with
        | true => (match up with
          | true => (match Nat.ble (Nat.add p.2 1) q.2 with
            | true => 0
            | false => 2)
          | false => (match Nat.ble (Nat.add q.2 1) p.2 with
            | true => 0
            | false => 2))
        | false => 2)
      | _ => 2)
    | _ => 2)
def bMeC (l0 : bL) (S0 : bS) (l1 : bL) (S1 : bS) (a b : bMe) : Nat := match a.1 with
  | 0 => (match b.1 with
    | 0 => (match Nat.ble a.2.1 8589934591 with
      | true => (match Nat.beq b.2.1 a.2.1 with
        | true => 1
        | false => (match Nat.ble (Nat.add b.2.1 1) a.2.1 with
          | true => 0
          | false => 2))
      | false => 2)
    | _ + 1 => (match Nat.ble 4294967297 a.2.1 with
      | true => 0
      | false => 2))
  | 1 => (match b.1 with
    | 1 => (match bGet l0 a.2.1 with
      | some u => (match bGet l1 b.2.1 with
        | some v => bMvC true u v
        | none => 2)
      | none => 2)
    | _ => 2)
  | 2 => (match b.1 with
    | 2 => (match bGet l0 a.2.1 with
      | some u => (match bGet l1 b.2.1 with
        | some v => bMvC false u v
        | none => 2)
      | none => 2)
    | _ => 2)
  | 3 => (match b.1 with
    | 3 => (match bFget S0.2.1 a.2.1 a.2.2 with
      | some u => (match bFget S1.2.1 b.2.1 b.2.2 with
        | some v => bMvC true u v
        | none => 2)
      | none => 2)
    | _ => 2)
  | 4 => (match b.1 with
    | 4 => (match bFget S0.2.1 a.2.1 a.2.2 with
      | some u => (match bFget S1.2.1 b.2.1 b.2.2 with
        | some v => bMvC false u v
        | none => 2)
      | none => 2)
    | _ => 2)
  | _ => 2
def bMeL (l0 : bL) (S0 : bS) (l1 : bL) (S1 : bS) : List bMe → List bMe → Bool
  | a :: r, b :: s => (match bMeC l0 S0 l1 S1 a b with
    | 0 => Nat.beq r.length s.length
    | 1 => bMeL l0 S0 l1 S1 r s
    | _ => false)
  | _, _ => false
