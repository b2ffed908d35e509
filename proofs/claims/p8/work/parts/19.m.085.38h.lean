/-! ===== what an exchange loses; the best switch; descending (pure) ===== -/
theorem fL_cP {B h : Nat → Bool} : ∀ n, (fL B n).countP h = sm (fun i => iv (B i = true ∧ h i = true)) n
  | 0 => rfl
  | n + 1 => by
    show (fL B (n + 1)).countP h = sm (fun i => iv (B i = true ∧ h i = true)) n + iv (B n = true ∧ h n = true)
    by_cases e : B n = true
    · rw [fL_add e, List.countP_append, fL_cP n]
      by_cases g : h n = true
      · rw [iv_t ⟨e, g⟩, List.countP_cons_of_pos g]
        rfl
      · rw [iv_f (fun z => g z.2), List.countP_cons_of_neg g]
        rfl
    · rw [fL_skip e, fL_cP n, iv_f (fun z => e z.1)]
      rfl
/-- a quadrilateral has one of the triples numbered in D -/
def hitQ (T : sT) (D : List Nat) (n : Nat) : Bool := (qL T n).any (fun t => decide (t ∈ D))
theorem hitQ_g (T : sT) (D : List Nat) (n : Nat) : hitQ T D n = !(!decide (n / 1225 ∈ D) && (!decide (n / 35 % 35 ∈ D) && (!decide (n % 35 ∈ D) && !decide (ql T n ∈ D)))) := by
  unfold hitQ qL
  simp only [List.any_cons, List.any_nil]
  cases decide (n / 1225 ∈ D) <;> cases decide (n / 35 % 35 ∈ D) <;> cases decide (n % 35 ∈ D) <;> cases decide (ql T n ∈ D) <;> rfl
/-- lost and kept are all -/
theorem nQ_lost {V : Nat} {T : sT} (hT : sOk V T) {D : List Nat} (hD : ∀ t, t ∈ D → t < (trL T 225).length) (hT0 : sOk V (uTs T (D.map (mN T)))) : nQ T = nQ (uTs T (D.map (mN T))) + (fL (qdB T) 42875).countP (hitQ T D) := by
  have a := nQ_take hT hD hT0 (fun t => !decide (t ∈ D)) (fun t => by rw [Bool.not_eq_true', decide_eq_false_iff_not])
  rw [a, fL_cP]
  show (fL (qdB T) 42875).length = _
  rw [fL_sm, ← sm_add]
  refine sm_ext 42875 (fun n _ => ?_)
  rw [iv_b, iv_b, hitQ_g]
  cases (!decide (n / 1225 ∈ D) && (!decide (n / 35 % 35 ∈ D) && (!decide (n % 35 ∈ D) && !decide (ql T n ∈ D)))) <;> simp
theorem jL_test : ∀ {L : List Nat} (u : Nat), ris L → ((jL L).testBit u = true ↔ u ∈ L)
  | [], u, _ => by
    show (0 : Nat).testBit u = true ↔ _
    rw [Nat.zero_testBit]
    simp
  | x :: r, u, h => by
    rw [jL_or h.1.2, Nat.testBit_or, Bool.or_eq_true, jL_test (L := r) u h.2, Nat.testBit_two_pow, decide_eq_true_iff, List.mem_cons]
    exact ⟨fun z => z.elim (fun w => Or.inr w) (fun w => Or.inl w.symm), fun z => z.elim (fun w => Or.inr w.symm) (fun w => Or.inl w)⟩
theorem and_hit {a b : Nat} : (¬ a &&& b = 0) ↔ ∃ u, a.testBit u = true ∧ b.testBit u = true := by
  constructor
  · intro h
    obtain ⟨u, hu⟩ := Nat.exists_testBit_of_ne_zero h
    rw [Nat.testBit_and, Bool.and_eq_true] at hu
    exact ⟨u, hu⟩
  · rintro ⟨u, h1, h2⟩ z
    have : (a &&& b).testBit u = true := by rw [Nat.testBit_and, h1, h2]; rfl
    rw [z, Nat.zero_testBit] at this
    cases this
theorem hitQ_m {T : sT} {D : List Nat} {n x : Nat} (hr : ris (qL T n)) (hx : ∀ u, x.testBit u = true ↔ u ∈ D) : hitQ T D n = true ↔ ¬ jL (qL T n) &&& x = 0 := by
  rw [and_hit]
  unfold hitQ
  rw [List.any_eq_true]
  constructor
  · rintro ⟨t, t1, t2⟩
    exact ⟨t, (jL_test t hr).mpr t1, (hx t).mpr (of_decide_eq_true t2)⟩
  · rintro ⟨t, t1, t2⟩
    exact ⟨t, (jL_test t hr).mp t1, decide_eq_true ((hx t).mp t2)⟩
/-- the code of a quadrilateral by its place -/
abbrev cQ2 (T : sT) (q : Nat) : Nat := (fL (qdB T) 42875).getD q 0
/-- the first of the best values below a place -/
def bsF (most : Bool) (v : Nat → Nat) : Nat → Int × Int
  | 0 => (-1, 0)
  | q + 1 => if (bsF most v q).1 = -1 ∨ (if most = true then (bsF most v q).2 < (v q : Int) else (v q : Int) < (bsF most v q).2) then ((q : Int), (v q : Int)) else bsF most v q
theorem bsF_in (most : Bool) (v : Nat → Nat) : ∀ q, ((bsF most v q).1 = -1 ∧ q = 0) ∨ ∃ b : Nat, (bsF most v q).1 = (b : Int) ∧ b < q ∧ (bsF most v q).2 = (v b : Int)
  | 0 => Or.inl ⟨rfl, rfl⟩
  | q + 1 => by
    refine Or.inr ?_
    have e : bsF most v (q + 1) = if ((bsF most v q).1 = -1 ∨ (if most = true then (bsF most v q).2 < (v q : Int) else (v q : Int) < (bsF most v q).2)) then ((q : Int), (v q : Int)) else bsF most v q := rfl
    rw [e]
    by_cases h : ((bsF most v q).1 = -1 ∨ (if most = true then (bsF most v q).2 < (v q : Int) else (v q : Int) < (bsF most v q).2))
    · rw [if_pos h]
      exact ⟨q, rfl, Nat.lt_succ_self q, rfl⟩
    · rw [if_neg h]
      rcases bsF_in most v q with ⟨e, -⟩ | ⟨b, b1, b2, b3⟩
      · exact absurd (Or.inl e) h
      · exact ⟨b, b1, by omega, b3⟩
def wr (x : Int) : Int := x.bmod 4294967296
/-- what a switch tells the tally -/
def tyQ (ty : Nat → Int) : Nat → Int := fun i => if i = 0 then wr (ty 0 + 1) else if i = 2 then wr (ty 2 + 4) else ty i
abbrev swV (T : sT) (q : Nat) : Nat := nQ (swQ T (cQ2 T q))
/-- the least switch, so many times -/
def dsF : Nat → sT → (Nat → Int) → Nat → sT × (Nat → Int) × Nat
  | 0, T, ty, k => (T, ty, k)
  | f + 1, T, ty, k => if (bsF false (swV T) (nQ T)).1 = -1 ∨ nQ T ≤ swV T (bsF false (swV T) (nQ T)).1.toNat then (T, ty, k) else dsF f (swQ T (cQ2 T (bsF false (swV T) (nQ T)).1.toNat)) (tyQ ty) (k + 1)
/-- the quadrilateral at a place can be switched -/
theorem sw_ok {V : Nat} {T : sT} (hT : sOk V T) {q : Nat} (hq : q < nQ T) : cQ2 T q < 42875 ∧ qdB T (cQ2 T q) = true ∧ tkOk T (qG T (cQ2 T q)) ∧ sOk V (uTs T (qG T (cQ2 T q))) ∧ ptOk V (uTs T (qG T (cQ2 T q))) (qC T (cQ2 T q)) ∧ sOk V (swQ T (cQ2 T q)) := by
  obtain ⟨g1, g2, g3⟩ := fL_get (B := qdB T) 42875 q hq
  exact ⟨g2, g1, qd_ok hT g2 g1⟩
