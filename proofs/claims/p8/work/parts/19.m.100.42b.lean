/-! ===== both sides' steps joined ===== -/
/-- the class's cells, but the text and its number -/
def wClJ : List (Nat × Nat) := (0, 999) :: (List.range 63).map (fun k => (k + 3, 999))
theorem wClJ_lw : lawW wClJ = true := by decide
theorem wClJ_P : bDj wClJ bPr = true := by decide
theorem wM_lw : lawW wM = true := by decide
theorem cF_bFr {hp hp1 : amH} (F : cF hp hp1) : bFr wClJ hp hp1 := fun c k e => by
  refine F c k ?_
  rcases Nat.lt_or_ge c 66 with g | g
  · by_cases c1 : c = 1
    · exact Or.inl c1
    · by_cases c2 : c = 2
      · exact Or.inr (Or.inl c2)
      · exfalso
        have h : bIn wClJ c k = true := by
          refine bIn_all ?_ k
          have d : ∀ c : Fin 66, ¬ c.1 = 1 → ¬ c.1 = 2 → bIn wClJ c.1 999 = true := by decide
          exact d ⟨c, g⟩ c1 c2
        rw [h] at e
        cases e
  · exact Or.inr (Or.inr g)
theorem cF_rf {hp hp1 : amH} {q : sR} {n : Nat} {h : Nat → sR} {sv : Option sR} (F : cF hp hp1) (hS : rfS hp q n h sv) : rfS hp1 q n h sv := by
  have e : ∀ c i, 66 ≤ c → rN hp1 c i = rN hp c i := fun c i hc => rN_eq (F c i (Or.inr (Or.inr hc)))
  refine ⟨?_, hyR_fr hS.2 (e 66 5 (by omega)) (e 66 6 (by omega)) (fun i => e 70 i (by omega)) (fun i => e 71 i (by omega))⟩
  rw [show rN hp1 67 = rN hp 67 from funext (fun i => e 67 i (by omega))]
  exact hS.1
theorem wM_cl {hp hp1 : amH} {q : sR} {n : Nat} {h : Nat → sR} {sv : Option sR} (F : bFr wM hp hp1) (hS : clS hp q n h sv) : clS hp1 q n h sv := clS_8 hS (fun c k hc => F c k (bIn_out (fun p hp z => by
  have d : ∀ p ∈ wM, 66 ≤ p.1 := by decide
  have := d p hp
  omega)))
/-- a step on both sides -/
theorem st_join {g : Int} {hp1 hp2 : amH} {q q1 : sR} {n n1 : Nat} {h h1 : Nat → sR} {sv sv1 : Option sR} (c : (g = 0 ∧ clS hp1 q1 n1 h1 sv1) ∨ (¬ g = 0 ∧ clS hp1 q n h sv)) (r : (g = 0 ∧ rfS hp2 q1 n1 h1 sv1) ∨ (¬ g = 0 ∧ rfS hp2 q n h sv)) (F : bFr wM hp1 hp2) : stS hp2 := by
  rcases c with ⟨c0, c⟩ | ⟨c0, c⟩ <;> rcases r with ⟨r0, r⟩ | ⟨r0, r⟩
  · exact ⟨_, _, _, _, wM_cl F c, r⟩
  · exact absurd c0 r0
  · exact absurd r0 c0
  · exact ⟨_, _, _, _, wM_cl F c, r⟩
theorem law_cl {hp hp1 : amH} (hI : lawI hp) (hH1 : bHk 84 bTT hp1) (F : cF hp hp1) : lawI hp1 := lawI_fr hI hH1 (P0_W (W := wClJ) wClJ_P (cF_bFr F) hI.2.1) (cF_bFr F) wClJ_lw wClJ_lw
theorem law_rf {hp1 hp2 : amH} (hI : lawI hp1) (hH2 : bHk 84 bTT hp2) (hP2 : P0 hp2) (F : bFr wM hp1 hp2) : lawI hp2 := lawI_fr hI hH2 hP2 F wM_lw wM_lw
