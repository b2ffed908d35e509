/-! ===== a load on both sides: one state ===== -/
theorem cB_0 {hp : amH} (h1 : rN hp 1 0 = 0) (h2 : rN hp 66 21 = 0) : cB hp = rB hp := bt_to (by omega) (fun k hk => by omega)
/-- what both loads bring -/
theorem law_ldJ {hp hp1 hp2 : amH} {q : sR} {n : Nat} {h : Nat → sR} {sv : Option sR} {z1 z2 : Int32} {y : tY} (g1 : bHk 84 bTT hp1 ∧ (∀ c k, 66 ≤ c → bFld hp1 c k = bFld hp c k) ∧ rN hp1 1 0 = 0 ∧ rC3 y z1.toInt q n h sv hp1) (g2 : bHk 84 bTT hp2 ∧ P0 hp2 ∧ bFr wLd hp1 hp2 ∧ rN hp2 66 21 = 0 ∧ rL3 y z2.toInt q n h sv hp2) : lawJ hp2 ∧ z1.toInt = z2.toInt := by
  obtain ⟨a1, a2, a3, a4⟩ := g1
  obtain ⟨b1, b2, b3, b4, b5⟩ := g2
  have d : ∀ p ∈ wLd, 66 ≤ p.1 := by decide
  have fr : ∀ c k, c < 66 → bFld hp2 c k = bFld hp1 c k := fun c k hc => b3 c k (bIn_out (fun p hp z => by have := d p hp; omega))
  have e : ∀ c k, c < 66 → rN hp2 c k = rN hp1 c k := fun c k hc => rN_eq (fr c k hc)
  have e0 : rN hp2 1 0 = 0 := (e 1 0 (by omega)).trans a3
  have e1 := e 1 1 (by omega)
  have e2 := e 1 2 (by omega)
  unfold rC3 at a4
  unfold rL3 at b5
  cases t : tRd y with
  | inl x =>
    rw [t] at a4 b5
    obtain ⟨c1, c2, c3, c4⟩ := a4
    obtain ⟨d1, d2, d3, d4⟩ := b5
    exact ⟨⟨⟨b1, b2, by omega, cB_0 e0 b4, by omega, by omega⟩, ⟨_, _, _, _, clS_8 c4 (fun c k hc => fr c k (by omega)), d4⟩⟩, by omega⟩
  | inr p =>
    rw [t] at a4 b5
    obtain ⟨c1, c2, c3, c4⟩ := a4
    obtain ⟨d1, d2, d3, d4⟩ := b5
    exact ⟨⟨⟨b1, b2, by omega, cB_0 e0 b4, by omega, by omega⟩, ⟨_, _, _, _, clS_8 c4 (fun c k hc => fr c k (by omega)), d4⟩⟩, by omega⟩
