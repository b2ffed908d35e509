/-! ===== the law's five calls of the text, both sides ===== -/
def gAp1 (x1 x2 x3 x4 x5 : Int32) (n : Nat) (hp : amH) (z : Int32) (hp1 : amH) : Prop := bHk 84 bTT hp1 ∧ bFr wTx hp hp1 ∧ ((n ≤ 580 ∧ rN hp1 1 0 = (n : Int) + 20 ∧ z.toInt = (n : Int) + 20 ∧ (∀ k, k < n → rN hp1 2 k = rN hp 2 k) ∧ ∀ j, j < 20 → rN hp1 2 (n + j) % 256 = bytE x1 x2 x3 x4 x5 j) ∨ (580 < n ∧ hp1 = hp ∧ z.toInt = -1))
def gAp2 (x1 x2 x3 x4 x5 : Int32) (n : Nat) (hp : amH) (z : Int32) (hp1 : amH) : Prop := bHk 84 bTT hp1 ∧ bFr ((66, 7) :: wAp) hp hp1 ∧ ((n ≤ 580 ∧ rN hp1 66 21 = (n : Int) + 20 ∧ z.toInt = (n : Int) + 20 ∧ (∀ k, k < n → rN hp1 80 k = rN hp 80 k) ∧ ∀ j, j < 20 → rN hp1 80 (n + j) = bytE x1 x2 x3 x4 x5 j) ∨ (580 < n ∧ rN hp1 66 21 = rN hp 66 21 ∧ (∀ k, rN hp1 80 k = rN hp 80 k) ∧ z.toInt = -1))
theorem law_ap {x1 x2 x3 x4 x5 : Int32} {n : Nat} {hp hp1 hp2 : amH} {z1 z2 : Int32} (hI : lawI hp) (h0 : rN hp 1 0 = (n : Int)) (g1 : gAp1 x1 x2 x3 x4 x5 n hp z1 hp1) (g2 : gAp2 x1 x2 x3 x4 x5 n hp1 z2 hp2) : lawI hp2 ∧ z1.toInt = z2.toInt := by
  obtain ⟨H1, F1, V1⟩ := g1
  obtain ⟨H2, F2, V2⟩ := g2
  obtain ⟨-, hP, h3, h4, h5, h6⟩ := hI
  have a0 : rN hp2 1 0 = rN hp1 1 0 := r_fr F2 rfl
  have a21 : rN hp1 66 21 = rN hp 66 21 := r_fr F1 rfl
  have a2 : ∀ k, rN hp2 2 k = rN hp1 2 k := fun k => r_fr F2 rfl
  have a80 : ∀ k, rN hp1 80 k = rN hp 80 k := fun k => r_fr F1 rfl
  have old := bt_of h4 h3
  have hn : rN hp2 1 0 = rN hp2 66 21 := by
    rcases V1 with ⟨v1, v2, -⟩ | ⟨v1, rfl, -⟩
    · rcases V2 with ⟨w1, w2, -⟩ | ⟨w1, -⟩ <;> omega
    · rcases V2 with ⟨w1, -⟩ | ⟨w1, w2, -⟩ <;> omega
  refine ⟨⟨H2, P0_W (W := (66, 7) :: wAp) (by decide) F2 (P0_W (W := wTx) (by decide) F1 hP), hn, bt_to hn (fun k hk => ?_), ?_, ?_⟩, ?_⟩
  · rcases V1 with ⟨v1, v2, v3, v4, v5⟩ | ⟨v1, rfl, v3⟩
    · rcases V2 with ⟨w1, w2, w3, w4, w5⟩ | ⟨w1, -⟩
      · rcases Nat.lt_or_ge k n with g | g
        · rw [a2, v4 k g, w4 k g, a80]
          exact old k (by omega)
        · have e1 := v5 (k - n) (by omega)
          have e2 := w5 (k - n) (by omega)
          rw [show n + (k - n) = k by omega] at e1 e2
          rw [a2, e1, e2]
      · omega
    · rcases V2 with ⟨w1, -⟩ | ⟨w1, w2, w3, w4⟩
      · omega
      · rw [a2, w3]
        exact old k (by omega)
  · rw [show rN hp2 1 1 = rN hp1 1 1 from r_fr F2 rfl, show rN hp1 1 1 = rN hp 1 1 from r_fr F1 rfl, show rN hp2 66 22 = rN hp1 66 22 from r_fr F2 rfl, show rN hp1 66 22 = rN hp 66 22 from r_fr F1 rfl]
    exact h5
  · rw [show rN hp2 1 2 = rN hp1 1 2 from r_fr F2 rfl, show rN hp1 1 2 = rN hp 1 2 from r_fr F1 rfl, show rN hp2 66 23 = rN hp1 66 23 from r_fr F2 rfl, show rN hp1 66 23 = rN hp 66 23 from r_fr F1 rfl]
    exact h6
  · rcases V1 with ⟨v1, v2, v3, -⟩ | ⟨v1, v2, v3⟩
    · rcases V2 with ⟨w1, w2, w3, -⟩ | ⟨w1, -⟩ <;> omega
    · rcases V2 with ⟨w1, -⟩ | ⟨w1, w2, -, w3⟩ <;> omega
def gTr1 (x : Int32) (hp : amH) (z : Int32) (hp1 : amH) : Prop := bHk 84 bTT hp1 ∧ bFr [(1, 0)] hp hp1 ∧ ((0 ≤ x.toInt ∧ x.toInt ≤ rN hp 1 0 ∧ rN hp1 1 0 = x.toInt ∧ z.toInt = 1) ∨ ((x.toInt < 0 ∨ rN hp 1 0 < x.toInt) ∧ rN hp1 1 0 = rN hp 1 0 ∧ z.toInt = 0))
def gTr2 (x : Int32) (hp : amH) (z : Int32) (hp1 : amH) : Prop := bHk 84 bTT hp1 ∧ bFr [(66, 7), (66, 21)] hp hp1 ∧ ((0 ≤ x.toInt ∧ x.toInt ≤ rN hp 66 21 ∧ rN hp1 66 21 = x.toInt ∧ z.toInt = 1) ∨ ((x.toInt < 0 ∨ rN hp 66 21 < x.toInt) ∧ rN hp1 66 21 = rN hp 66 21 ∧ z.toInt = 0))
theorem law_tr {x : Int32} {hp hp1 hp2 : amH} {z1 z2 : Int32} (hI : lawI hp) (g1 : gTr1 x hp z1 hp1) (g2 : gTr2 x hp1 z2 hp2) : lawI hp2 ∧ z1.toInt = z2.toInt := by
  obtain ⟨H1, F1, V1⟩ := g1
  obtain ⟨H2, F2, V2⟩ := g2
  obtain ⟨-, hP, h3, h4, h5, h6⟩ := hI
  have a0 : rN hp2 1 0 = rN hp1 1 0 := r_fr F2 rfl
  have a21 : rN hp1 66 21 = rN hp 66 21 := r_fr F1 rfl
  have old := bt_of h4 h3
  have hn : rN hp2 1 0 = rN hp2 66 21 := by omega
  refine ⟨⟨H2, P0_W (W := [(66, 7), (66, 21)]) (by decide) F2 (P0_W (W := [(1, 0)]) (by decide) F1 hP), hn, bt_to hn (fun k hk => ?_), ?_, ?_⟩, by omega⟩
  · rw [show rN hp2 2 k = rN hp1 2 k from r_fr F2 rfl, show rN hp1 2 k = rN hp 2 k from r_fr F1 rfl, show rN hp2 80 k = rN hp1 80 k from r_fr F2 rfl, show rN hp1 80 k = rN hp 80 k from r_fr F1 rfl]
    exact old k (by omega)
  · rw [show rN hp2 1 1 = rN hp1 1 1 from r_fr F2 rfl, show rN hp1 1 1 = rN hp 1 1 from r_fr F1 rfl, show rN hp2 66 22 = rN hp1 66 22 from r_fr F2 rfl, show rN hp1 66 22 = rN hp 66 22 from r_fr F1 rfl]
    exact h5
  · rw [show rN hp2 1 2 = rN hp1 1 2 from r_fr F2 rfl, show rN hp1 1 2 = rN hp 1 2 from r_fr F1 rfl, show rN hp2 66 23 = rN hp1 66 23 from r_fr F2 rfl, show rN hp1 66 23 = rN hp 66 23 from r_fr F1 rfl]
    exact h6
