/-! ===== the reference's cells kept ===== -/
theorem rf_66 {hp hp1 : amH} {q : sR} {n : Nat} {h : Nat → sR} {sv : Option sR} (F : ∀ c k, 66 ≤ c → bFld hp1 c k = bFld hp c k) (hS : rfS hp q n h sv) : rfS hp1 q n h sv := by
  have e : ∀ c i, 66 ≤ c → rN hp1 c i = rN hp c i := fun c i hc => rN_eq (F c i hc)
  refine ⟨?_, hyR_fr hS.2 (e 66 5 (by omega)) (e 66 6 (by omega)) (fun i => e 70 i (by omega)) (fun i => e 71 i (by omega))⟩
  rw [show rN hp1 67 = rN hp 67 from funext (fun i => e 67 i (by omega))]
  exact hS.1
theorem P0_66 {hp hp1 : amH} {q : sR} {n : Nat} {h : Nat → sR} {sv : Option sR} (F : ∀ c k, 66 ≤ c → bFld hp1 c k = bFld hp c k) (hS : rfS hp q n h sv) (hP : P0 hp) : P0 hp1 := rfS_P (rf_66 F hS) (by
  rw [show rN hp1 69 = rN hp 69 from funext (fun i => rN_eq (F 69 i (by omega)))]
  exact hP.2.2.2)
theorem rB_66 {hp hp1 : amH} (F : ∀ c k, 66 ≤ c → bFld hp1 c k = bFld hp c k) : rB hp1 = rB hp := by
  funext k
  unfold rB
  rw [show rN hp1 66 21 = rN hp 66 21 from rN_eq (F 66 21 (by omega)), show rN hp1 80 k = rN hp 80 k from rN_eq (F 80 k (by omega))]
