/-! ===== ways by hand: triples that are switched ===== -/
/-- triples of the third points t, no two with a pair in common -/
def Trs (t : Nat → Nat → Int) (p : Int) (r : Nat) (A : Nat → Nat × Nat × Nat) : Prop :=
  (∀ k, k < r → ¬ (A k).1 = (A k).2.1 ∧ ¬ (A k).2.1 = (A k).2.2 ∧ ¬ (A k).1 = (A k).2.2 ∧ ((A k).1 : Int) < p ∧ ((A k).2.1 : Int) < p ∧ ((A k).2.2 : Int) < p) ∧
  (∀ k u v, k < r → prA A k u v → t u v = ((A k).1 : Int) + (A k).2.1 + (A k).2.2 - u - v) ∧ (∀ k l u v, k < r → l < r → prA A k u v → prA A l u v → k = l)
theorem Trs_x {t : Nat → Nat → Int} {p : Int} {r i : Nat} {A : Nat → Nat × Nat × Nat} {hp : amH} (hp15 : p ≤ 15) (h : Trs t p r A) (hi : i < r) (hT : Tkn t A i hp) : tT hp (A i).1 (A i).2.1 = ((A i).2.2 : Int) := by
  have h1 := h.1 i hi
  rw [(hT (A i).1 (A i).2.1 (by omega) (by omega)).2 (fun k hk z => ?_)]
  · rw [h.2.1 i _ _ hi ⟨by omega, Or.inl rfl, Or.inr (Or.inl rfl)⟩]
    omega
  · have := h.2.2 k i _ _ (by omega) hi z ⟨by omega, Or.inl rfl, Or.inr (Or.inl rfl)⟩
    omega
/-- the triples that are put take pairs that were freed, no two a pair in common -/
def Sws (p : Int) (r : Nat) (A C : Nat → Nat × Nat × Nat) : Prop :=
  (∀ k, k < r → ¬ (C k).1 = (C k).2.1 ∧ ¬ (C k).2.1 = (C k).2.2 ∧ ¬ (C k).1 = (C k).2.2 ∧ ((C k).1 : Int) < p ∧ ((C k).2.1 : Int) < p ∧ ((C k).2.2 : Int) < p) ∧
  (∀ k u v, k < r → prA C k u v → ∃ l, l < r ∧ prA A l u v) ∧ (∀ k l u v, k < r → l < r → prA C k u v → prA C l u v → k = l)
/-- the first i are put -/
def Ptn (r : Nat) (A C : Nat → Nat × Nat × Nat) (i : Nat) (hp : amH) : Prop := ∀ u v, u < 15 → v < 15 → (∃ l, l < r ∧ prA A l u v) → (∀ k, k < i → ¬ prA C k u v) → tT hp u v = -1
theorem Ptn_0 {t : Nat → Nat → Int} {r : Nat} {A C : Nat → Nat × Nat × Nat} {hp : amH} (hT : Tkn t A r hp) : Ptn r A C 0 hp := fun u v hu hv ⟨l, hl, h⟩ _ => (hT u v hu hv).1 l hl h
theorem Ptn_f {p : Int} {r i : Nat} {A C : Nat → Nat × Nat × Nat} {hp : amH} (hp15 : p ≤ 15) (h : Sws p r A C) (hi : i < r) (hI : Ptn r A C i hp) : fr3 hp (C i).1 (C i).2.1 (C i).2.2 := by
  have h1 := h.1 i hi
  have key : ∀ u v : Nat, (u : Int) < p → (v : Int) < p → prA C i u v → tT hp u v = -1 := by
    intro u v hu hv huv
    refine hI u v (by omega) (by omega) (h.2.1 i u v hi huv) (fun k hk z => ?_)
    have := h.2.2 k i u v (by omega) hi z huv
    omega
  exact ⟨key _ _ (by omega) (by omega) ⟨by omega, by omega, by omega⟩, key _ _ (by omega) (by omega) ⟨by omega, by omega, by omega⟩, key _ _ (by omega) (by omega) ⟨by omega, by omega, by omega⟩⟩
theorem Ptn_s {r i : Nat} {A C : Nat → Nat × Nat × Nat} {hp hp1 : amH} {f : Nat → Nat → Int} (hI : Ptn r A C i hp) (h : ∀ u v, u < 15 → v < 15 → tT hp1 u v = if prA C i u v then f u v else tT hp u v) : Ptn r A C (i + 1) hp1 := by
  intro u v hu hv hl hk
  rw [h u v hu hv, if_neg (hk i (by omega))]
  exact hI u v hu hv hl (fun k h => hk k (by omega))
