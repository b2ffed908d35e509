/-! ===== loads on both sides give the same answer ===== -/
def gLe1 (hp : amH) (z : Int32) (hp1 : amH) : Prop := bHk 84 bTT hp1 ∧ P0 hp1 ∧ bFr wC2 hp hp1 ∧ rN hp1 1 0 = 0 ∧ rC2 (cB hp) z.toInt hp hp1
def gLe2 (y : tY) (hp : amH) (z : Int32) (hp1 : amH) : Prop := bHk 84 bTT hp1 ∧ P0 hp1 ∧ bFr wLd hp hp1 ∧ rN hp1 66 21 = 0 ∧ rL2 y z.toInt hp hp1
theorem law_le {hp hp1 hp2 : amH} {z1 z2 : Int32} (hI : lawI hp) (g1 : gLe1 hp z1 hp1) (g2 : gLe2 (cB hp) hp1 z2 hp2) : lawI hp2 ∧ z1.toInt = z2.toInt := by
  obtain ⟨H1, P1, F1, n1, V1⟩ := g1
  obtain ⟨H2, P2, F2, n2, V2⟩ := g2
  have a0 : rN hp2 1 0 = rN hp1 1 0 := r_fr F2 rfl
  have e1 : rN hp2 1 1 = rN hp1 1 1 := r_fr F2 rfl
  have e2 : rN hp2 1 2 = rN hp1 1 2 := r_fr F2 rfl
  unfold rC2 at V1
  unfold rL2 at V2
  refine ⟨⟨H2, P2, by omega, bt_to (by omega) (fun k hk => by omega), ?_, ?_⟩, ?_⟩
  · cases e : tRd (cB hp) with
    | inl er => rw [e] at V1 V2; rw [e1, V1.2.1, V2.2.1]
    | inr q => rw [e] at V1 V2; rw [e1, V1.2.1, V2.2.1]
  · cases e : tRd (cB hp) with
    | inl er => rw [e] at V1 V2; rw [e2, V1.2.2.1, V2.2.2.1]
    | inr q => rw [e] at V1 V2; rw [e2, V1.2.2.1, V2.2.2.1]
  · cases e : tRd (cB hp) with
    | inl er => rw [e] at V1 V2; rw [V1.1, V2.1]
    | inr q => rw [e] at V1 V2; rw [V1.1, V2.1]
theorem rB_1e {hp hp1 : amH} {z : Int32} (hI : lawI hp) (g : gLe1 hp z hp1) : rB hp1 = cB hp := by
  rw [rB_F g.2.2.1 rfl (fun _ => rfl)]
  exact hI.2.2.2.1.symm
