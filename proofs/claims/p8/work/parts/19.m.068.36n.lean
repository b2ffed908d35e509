/-! ===== clear brings the same on both sides (pure) ===== -/
def rcC (T : sT) (p k : Nat) (u v : Nat) : Prop := ∃ q, q < k ∧ ¬ q = p ∧ inT T u v p ∧ inT T u v q
theorem rcC_inv {V : Nat} {T : sT} (hT : sOk V T) (p k : Nat) : inv3 T (rcC T p k) := fun u v x y g1 g2 g3 g4 => by
  have t := (inT_tr hT g1 g2 g3 g4).2
  unfold rcC
  constructor
  · rintro ⟨q, q1, q2, q3, q4⟩
    exact ⟨q, q1, q2, (t p).mp q3, (t q).mp q4⟩
  · rintro ⟨q, q1, q2, q3, q4⟩
    exact ⟨q, q1, q2, (t p).mpr q3, (t q).mpr q4⟩
theorem tkn_C {T S : sT} {C C1 : Nat → Nat → Prop} (h : tkn T S C) (e : ∀ u v, C u v ↔ C1 u v) : tkn T S C1 := fun u v => by
  rw [← e u v]
  exact h u v
theorem rc_s {V : Nat} {T : sT} (hT : sOk V T) (p : Nat) : ∀ k, tkn T (rcT T p k) (rcC T p k)
  | 0 => tkn_C (tkn_0 T) (fun u v => ⟨fun z => z.elim, fun ⟨q, q1, _⟩ => absurd q1 (Nat.not_lt_zero q)⟩)
  | k + 1 => by
    have ih := rc_s hT p k
    by_cases e : k = p
    · have er : rcT T p (k + 1) = rcT T p k := by
        show (if k = p then _ else _) = _
        rw [if_pos e]
      rw [er]
      refine tkn_C ih (fun u v => ⟨fun ⟨q, q1, q2, q3⟩ => ⟨q, by omega, q2, q3⟩, fun ⟨q, q1, q2, q3⟩ => ⟨q, by omega, q2, q3⟩⟩)
    · have er : rcT T p (k + 1) = rmT (rcT T p k) p k := by
        show (if k = p then _ else _) = _
        rw [if_neg e]
      rw [er]
      refine tkn_C (rm_s hT ih (rcC_inv hT p k) (fun z => e z.symm)) (fun u v => ⟨fun z => ?_, fun ⟨q, q1, q2, q3, q4⟩ => ?_⟩)
      · rcases z with ⟨q, q1, q2, q3⟩ | ⟨z1, z2⟩
        · exact ⟨q, by omega, q2, q3⟩
        · exact ⟨k, by omega, e, z1, z2⟩
      · by_cases g : q = k
        · subst g
          exact Or.inr ⟨q3, q4⟩
        · exact Or.inl ⟨q, by omega, q2, q3, q4⟩
theorem clear_eq {V : Nat} {T : sT} (hT : sOk V T) {p : Nat} : dP (mtB T (2 ^ p) 1) T 225 = rcT T p V := by
  refine tkn_eq (dP_tkn hT) (rc_s hT p V) (fun u v h => ?_)
  obtain ⟨w, ew, l1, l2, l3, d1, d2, d3, -⟩ := sOk_at hT rfl h
  rw [mtB_n hT ew]
  have t : ∀ i, ((2 ^ p : Nat).testBit i).toNat = if i = p then 1 else 0 := fun i => by
    rw [p2_test]
    by_cases g : i = p
    · rw [if_pos g, decide_eq_true g]; rfl
    · rw [if_neg g, decide_eq_false g]; rfl
  rw [t, t, t]
  unfold rcC inT
  rw [ew]
  constructor
  · intro z
    have hp : p = u ∨ p = v ∨ p = w := by
      by_cases a : u = p
      · exact Or.inl a.symm
      · by_cases b : v = p
        · exact Or.inr (Or.inl b.symm)
        · by_cases c : w = p
          · exact Or.inr (Or.inr c.symm)
          · rw [if_neg a, if_neg b, if_neg c] at z
            omega
    by_cases a : u = p
    · exact ⟨v, l2, by omega, by omega, by omega⟩
    · exact ⟨u, l1, a, by omega, by omega⟩
  · rintro ⟨q, -, -, q3, -⟩
    have hp : u = p ∨ v = p ∨ w = p := by omega
    rcases hp with a | a | a
    · rw [if_pos a]; omega
    · rw [if_pos a]; omega
    · rw [if_pos a]; omega
