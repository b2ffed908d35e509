theorem force_eq {V : Nat} {T : sT} (hT : sOk V T) {a b c : Nat} (hab : ¬ a = b) (hbc : ¬ b = c) (hac : ¬ a = c) : dP (mtB T (m3 a b c) 2) T 225 = r3T T a b c := by
  have s1 := rm_s hT (tkn_0 T) (inv3_0 T) hab
  have i1 := inv3_or hT (inv3_0 T) a b
  have s2 := rm_s hT s1 i1 hbc
  have i2 := inv3_or hT i1 b c
  have s3 := rm_s hT s2 i2 hac
  refine tkn_eq (dP_tkn hT) s3 (fun u v h => ?_)
  obtain ⟨w, ew, -, -, -, d1, d2, d3, -⟩ := sOk_at hT rfl h
  show _ ↔ ((False ∨ inT T u v a ∧ inT T u v b) ∨ inT T u v b ∧ inT T u v c) ∨ inT T u v a ∧ inT T u v c
  rw [false_or]
  rw [mtB_n hT ew]
  unfold inT
  rw [ew]
  have t : ∀ i, ((m3 a b c).testBit i).toNat = if i = a ∨ i = b ∨ i = c then 1 else 0 := fun i => by
    rw [m3_test]
    by_cases g : i = a ∨ i = b ∨ i = c
    · rw [if_pos g, decide_eq_true g]; rfl
    · rw [if_neg g, decide_eq_false g]; rfl
  rw [t, t, t]
  split <;> split <;> split <;> omega
