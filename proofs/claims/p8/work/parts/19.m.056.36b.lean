/-! ===== how many triples there are, one taken, one put (pure) ===== -/
theorem trL_sm {T : sT} : ∀ n, (trL T n).length = sm (fun i => iv (trB T i = true)) n
  | 0 => rfl
  | n + 1 => by
    show (trL T (n + 1)).length = sm (fun i => iv (trB T i = true)) n + iv (trB T n = true)
    by_cases h : trB T n = true
    · rw [trL_add h, List.length_append, List.length_singleton, trL_sm n, iv_t h]
    · rw [show trL T (n + 1) = trL T n by show (if trB T n = true then _ else _) = _; rw [if_neg h], trL_sm n, iv_f h]
      rfl
theorem trB_take {V : Nat} {T : sT} (hT : sOk V T) {x y z : Nat} (e : T x y = (z : Int)) (n : Nat) : trB (sTake T x y z) n = true ↔ (trB T n = true ∧ ¬ n = cd T x y) := by
  obtain ⟨w, ew, l1, l2, l3, d1, d2, d3, -⟩ := sOk_at hT e (by omega)
  have : w = z := by omega
  subst this
  have hne : ¬ T x y = -1 := by omega
  obtain ⟨g1, g2, g3⟩ := cd_of hT hne
  constructor
  · intro h
    have k := of_decide_eq_true h
    have hp : ¬ sPr x y w (n / 15) (n % 15) := fun z => by
      unfold sTake at k
      rw [if_pos z] at k
      omega
    have k2 : sTake T x y w (n / 15) (n % 15) = T (n / 15) (n % 15) := by unfold sTake; rw [if_neg hp]
    rw [k2] at k
    refine ⟨decide_eq_true k, fun z => hp ?_⟩
    subst z
    obtain ⟨q0, q1, q2⟩ := g3
    obtain ⟨v, ev, v1, v2, v3⟩ := tr_pts hT g1
    rw [ev, Int.toNat_natCast] at q1 q2
    have c := cd_pr hT g1 (u := x) (v := y) (by rw [ev, Int.toNat_natCast]; exact ⟨q0, q1, q2⟩)
    have c1 := c.1
    rw [ev, e] at c1
    exact ⟨by omega, by omega, by omega⟩
  · rintro ⟨h, hn⟩
    have k := of_decide_eq_true h
    have hp : ¬ sPr x y w (n / 15) (n % 15) := fun hq => hn (by
      obtain ⟨v, ev, v1, v2, v3⟩ := tr_pts hT h
      have c := cd_pr hT h (u := n / 15) (v := n % 15) (by rw [ev, Int.toNat_natCast]; exact ⟨by omega, by omega, by omega⟩)
      have c0 : T (n / 15) (n % 15) = ((x + y + w - n / 15 - n % 15 : Nat) : Int) := by
        have := cd_pr hT g1 (u := n / 15) (v := n % 15) (by
          obtain ⟨u, eu, u1, u2, u3⟩ := tr_pts hT g1
          have cc := (cd_pr hT g1 (u := x) (v := y) g3).1
          rw [eu, e] at cc
          rw [eu, Int.toNat_natCast] at g3 ⊢
          obtain ⟨q0, q1, q2⟩ := hq
          obtain ⟨r0, r1, r2⟩ := g3
          exact ⟨q0, by omega, by omega⟩)
        have cc := (cd_pr hT g1 (u := x) (v := y) g3).1
        rw [e] at cc
        have t1 := this.1
        obtain ⟨q0, q1, q2⟩ := hq
        omega
      have := cd_pr hT g1 (u := n / 15) (v := n % 15) (by
          obtain ⟨u, eu, u1, u2, u3⟩ := tr_pts hT g1
          have cc := (cd_pr hT g1 (u := x) (v := y) g3).1
          rw [eu, e] at cc
          rw [eu, Int.toNat_natCast] at g3 ⊢
          obtain ⟨q0, q1, q2⟩ := hq
          obtain ⟨r0, r1, r2⟩ := g3
          exact ⟨q0, by omega, by omega⟩)
      exact c.2.2.symm.trans this.2.2)
    refine decide_eq_true ?_
    rw [show sTake T x y w (n / 15) (n % 15) = T (n / 15) (n % 15) by unfold sTake; rw [if_neg hp]]
    exact k
/-- one triple less -/
theorem len_take {V : Nat} {T : sT} (hT : sOk V T) {x y z : Nat} (e : T x y = (z : Int)) : (trL T 225).length = (trL (sTake T x y z) 225).length + 1 := by
  have hne : ¬ T x y = -1 := by omega
  obtain ⟨g1, g2, -⟩ := cd_of hT hne
  rw [trL_sm, trL_sm]
  have : sm (fun i => iv (trB T i = true)) 225 = sm (fun i => iv (trB (sTake T x y z) i = true) + iv (i = cd T x y)) 225 := sm_ext 225 (fun i _ => by
    have q := trB_take hT e i
    by_cases h : i = cd T x y
    · rw [iv_f (fun w => (q.mp w).2 h), iv_t h, h, iv_t g1]
    · rw [iv_f h]
      exact iv_eq ⟨fun w => q.mpr ⟨w, h⟩, fun w => (q.mp w).1⟩)
  rw [this, sm_add, sm_eq1 g2]
