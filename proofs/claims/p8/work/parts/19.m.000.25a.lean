/-! ===== the text, read: what comes of it (pure) ===== -/
/-- on from p as long as P holds, f times at most -/
def tR (P : Nat → Bool) : Nat → Nat → Nat
  | 0, p => p
  | f + 1, p => if P p = true then tR P f (p + 1) else p
theorem tR_eq {P : Nat → Bool} : ∀ (f p q : Nat), p ≤ q → q ≤ p + f → (∀ k, p ≤ k → k < q → P k = true) → (q < p + f → P q = false) → tR P f p = q
  | 0, p, q, h1, h2, _, _ => by unfold tR; omega
  | f + 1, p, q, h1, h2, h3, h4 => by
    unfold tR
    by_cases hp : p = q
    · subst hp
      rw [h4 (by omega)]
      rfl
    · rw [if_pos (h3 p (Nat.le_refl _) (by omega))]
      exact tR_eq f (p + 1) q (by omega) (by omega) (fun k k1 k2 => h3 k (by omega) k2) (fun h => h4 (by omega))
theorem tR_ge {P : Nat → Bool} : ∀ (f p : Nat), p ≤ tR P f p
  | 0, p => Nat.le_refl _
  | f + 1, p => by
    unfold tR
    split
    · have := tR_ge (P := P) f (p + 1); omega
    · exact Nat.le_refl _
theorem tR_le {P : Nat → Bool} {n : Nat} (h : ∀ k, P k = true → k < n) : ∀ (f p : Nat), p ≤ n → tR P f p ≤ n
  | 0, p, hp => hp
  | f + 1, p, hp => by
    unfold tR
    split
    · next e => have := h p e; exact tR_le h f (p + 1) (by omega)
    · exact hp
theorem tR_lt {P : Nat → Bool} {f p : Nat} (h : P p = true) : p < tR P (f + 1) p := by
  unfold tR
  rw [if_pos h]
  have := tR_ge (P := P) f (p + 1)
  omega
abbrev tY : Type := Nat → Int
def tSp (y : tY) (k : Nat) : Bool := decide (y k = 32 ∨ y k = 10)
def tLt (y : tY) (k : Nat) : Bool := decide (97 ≤ y k ∧ y k ≤ 122)
def tDg (y : tY) (k : Nat) : Bool := decide (48 ≤ y k ∧ y k ≤ 57)
/-- a text of n bytes: behind it there is nothing -/
def tOk (n : Nat) (y : tY) : Prop := n ≤ 600 ∧ (∀ k, k < n → 0 ≤ y k ∧ y k ≤ 255) ∧ ∀ k, n ≤ k → y k = -1
theorem tOk_lt {n : Nat} {y : tY} (h : tOk n y) {k : Nat} (hk : 0 ≤ y k) : k < n := by
  rcases Nat.lt_or_ge k n with g | g
  · exact g
  · have := h.2.2 k g; omega
theorem tSp_n {n : Nat} {y : tY} (h : tOk n y) (k : Nat) (e : tSp y k = true) : k < n := tOk_lt h (by have := of_decide_eq_true e; omega)
theorem tLt_n {n : Nat} {y : tY} (h : tOk n y) (k : Nat) (e : tLt y k = true) : k < n := tOk_lt h (by have := of_decide_eq_true e; omega)
theorem tDg_n {n : Nat} {y : tY} (h : tOk n y) (k : Nat) (e : tDg y k = true) : k < n := tOk_lt h (by have := of_decide_eq_true e; omega)
/-- where the next token begins -/
def tS (y : tY) (p : Nat) : Nat := tR (tSp y) 601 p
/-- where the token at s ends -/
def tE (y : tY) (s : Nat) : Nat := if y s = -1 then s else if tLt y s = true then tR (tLt y) 601 s else if tDg y s = true then tR (tDg y) 601 s else s + 1
def tK (y : tY) (s : Nat) : Int := if y s = -1 then 0 else if tLt y s = true then 1 else if tDg y s = true then 2 else if y s = 59 then 3 else 4
def tN (y : tY) (s : Nat) : Nat := tS y (tE y s)
/-- the number at s, of one digit or two -/
def tV (y : tY) (s : Nat) : Int := if tE y s = s + 1 then y s - 48 else 10 * (y s - 48) + (y (s + 1) - 48)
def tWd (y : tY) (s : Nat) (l : List Int32) : Bool := decide (tK y s = 1 ∧ tE y s = s + l.length ∧ ∀ k, k < l.length → y (s + k) = (l.getD k 0).toInt)
theorem tE_ge {y : tY} {s : Nat} : s ≤ tE y s := by
  unfold tE
  split
  · exact Nat.le_refl _
  · split
    · exact tR_ge _ _
    · split
      · exact tR_ge _ _
      · omega
theorem tE_gt {n : Nat} {y : tY} (h : tOk n y) {s : Nat} (hs : tK y s ≠ 0) : s < tE y s := by
  unfold tK at hs
  unfold tE
  split
  · next e => rw [if_pos e] at hs; exact absurd rfl hs
  · split
    · next e => exact tR_lt e
    · split
      · next e => exact tR_lt e
      · omega
theorem tE_le {n : Nat} {y : tY} (h : tOk n y) {s : Nat} (hs : s ≤ n) : tE y s ≤ n := by
  unfold tE
  split
  · exact hs
  · next e0 =>
    split
    · exact tR_le (tLt_n h) _ _ hs
    · split
      · exact tR_le (tDg_n h) _ _ hs
      · rcases Nat.lt_or_ge s n with g | g
        · omega
        · exact absurd (h.2.2 s g) e0
theorem tS_ge {y : tY} {p : Nat} : p ≤ tS y p := tR_ge _ _
theorem tS_le {n : Nat} {y : tY} (h : tOk n y) {p : Nat} (hp : p ≤ n) : tS y p ≤ n := tR_le (tSp_n h) _ _ hp
theorem tN_le {n : Nat} {y : tY} (h : tOk n y) {s : Nat} (hs : s ≤ n) : tN y s ≤ n := tS_le h (tE_le h hs)
theorem tN_ge {y : tY} {s : Nat} : s ≤ tN y s := Nat.le_trans tE_ge tS_ge
theorem tN_gt {n : Nat} {y : tY} (h : tOk n y) {s : Nat} (hs : tK y s ≠ 0) : s < tN y s := Nat.lt_of_lt_of_le (tE_gt h hs) tS_ge
theorem tK_0 {y : tY} {s : Nat} : tK y s = 0 ↔ y s = -1 := by
  unfold tK
  constructor
  · intro h
    split at h
    · next e => exact e
    · split at h
      · cases h
      · split at h
        · cases h
        · split at h <;> cases h
  · intro h
    rw [if_pos h]
/-- a number where one is wanted, from lo to hi, none of those before: 0, or the error's code -/
def tNum (y : tY) (s : Nat) (lo hi : Int) (pre : List Int) : Int := if ¬ (tK y s = 2 ∧ tE y s ≤ s + 2) then 1 else if tV y s < lo ∨ hi < tV y s then 2 else if tV y s ∈ pre then 2 else 0
