/-- all of it by the six points -/
theorem qd_all {V : Nat} {T : sT} (hT : sOk V T) {n : Nat} (hn : n < 42875) (h : qdB T n = true) : ∃ p a b c d e : Nat, (p < V ∧ a < V ∧ b < V ∧ c < V ∧ d < V ∧ e < V) ∧ sxP p a b c d e ∧ qG T n = [m3 p a b, m3 p c d, m3 a c e, m3 b d e] ∧ qC T n = [m3 c d e, m3 a b e, m3 p b d, m3 p a c] ∧ (∀ u, (qU T n).testBit u = true ↔ (u = p ∨ u = a ∨ u = b ∨ u = c ∨ u = d ∨ u = e)) ∧ T p a = (b : Int) ∧ T p c = (d : Int) ∧ T a c = (e : Int) ∧ T b d = (e : Int) := by
  obtain ⟨hX, -, -, hR⟩ := qd_X hT hn h
  obtain ⟨p, a, b, c, d, e, hlt, h6, ⟨m1, m2, m3', m4⟩, ht⟩ := qd_sx hT hX
  have hU : ∀ u, (qU T n).testBit u = true ↔ (u = p ∨ u = a ∨ u = b ∨ u = c ∨ u = d ∨ u = e) := fun u => by
    unfold qU
    rw [hR, m1, m2, m4, Nat.testBit_or, Nat.testBit_or, m3_test, m3_test, m3_test]
    simp only [Bool.or_eq_true, decide_eq_true_eq]
    omega
  obtain ⟨k1, k2, k3, k4, k5⟩ := id h6
  refine ⟨p, a, b, c, d, e, hlt, h6, ?_, ?_, hU, ht⟩
  · unfold qG
    rw [m1, m2, m3', m4]
  · unfold qC
    rw [m1, m2, m3', m4, nd_3 (U := qU T n) (x := p) (y := a) (z := b) (a := c) (b := d) (c := e) (fun u => by rw [hU u]; omega) (by omega) (by omega) (by omega), nd_3 (U := qU T n) (x := p) (y := c) (z := d) (a := a) (b := b) (c := e) (fun u => by rw [hU u]; omega) (by omega) (by omega) (by omega), nd_3 (U := qU T n) (x := a) (y := c) (z := e) (a := p) (b := b) (c := d) (fun u => by rw [hU u]; omega) (by omega) (by omega) (by omega), nd_3 (U := qU T n) (x := b) (y := d) (z := e) (a := p) (b := a) (c := c) (fun u => by rw [hU u]; omega) (by omega) (by omega) (by omega)]
