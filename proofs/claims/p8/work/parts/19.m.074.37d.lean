/-! ===== turns within the points: the class ===== -/
theorem x_sg {x y : Int32} (hy : 0 ≤ y.toInt) : (x ^^^ y).toInt < 0 ↔ x.toInt < 0 := by
  have e1 : (x ^^^ y).toInt = (x.toBitVec ^^^ y.toBitVec).toInt := rfl
  have e2 : x.toInt = x.toBitVec.toInt := rfl
  have e3 : y.toInt = y.toBitVec.toInt := rfl
  have m1 := BitVec.msb_eq_toInt (x := x.toBitVec ^^^ y.toBitVec)
  have m2 := BitVec.msb_eq_toInt (x := x.toBitVec)
  have m3 := BitVec.msb_eq_toInt (x := y.toBitVec)
  rw [← e3, decide_eq_false (by omega)] at m3
  rw [BitVec.msb_xor, m3, Bool.xor_false, m2, decide_eq_decide] at m1
  rw [e1, e2]
  exact m1.symm
theorem u345 : bUp 0 am_m345.1 = true := by decide +kernel
theorem u5 : bUp 0 am_m5.1 = true := by decide +kernel
theorem tm_sg (k p : Int) : (0 ≤ k → 0 ≤ k.tmod p) ∧ (k < 0 → k.tmod p ≤ 0) := by
  constructor
  · exact fun h => Int.tmod_nonneg p h
  · intro h
    have := Int.tmod_nonneg p (a := -k) (by omega)
    rw [Int.neg_tmod] at this
    omega
theorem k_flm {d : Nat} {hp : amH} {R : xQ} {a b : Int32} (hb : 0 < b.toInt) (hb2 : b.toInt ≤ 15) (hR : ∀ z : Int32, z.toInt = bv a.toInt b.toInt → R (.inl (some (.int z))) hp) : xK d 345 [.int a, .int b] hp R := by
  have q := bv_in (k := a.toInt) hb
  have s := tm_sg a.toInt b.toInt
  have sg := x_sg (x := a) (y := b) (by omega)
  refine xin (M := am_m345) rfl rfl rfl ?_
  refine xild 1 ⟨u345, _, rfl⟩ rfl rfl ?_
  refine xild 2 ⟨u345, _, rfl⟩ rfl rfl ?_
  refine xremG 3 ⟨u345, _, rfl⟩ rfl hb (fun z2 h2 => ?_)
  refine xist 4 ⟨u345, _, rfl⟩ rfl rfl ?_
  refine xild 5 ⟨u345, _, rfl⟩ rfl rfl ?_
  refine xild 6 ⟨u345, _, rfl⟩ rfl rfl ?_
  refine xxor 7 ⟨u345, _, rfl⟩ rfl ?_
  refine xif_ge 10 ⟨u345, _, rfl⟩ rfl (fun c7 => ?_) (fun c7 => ?_)
  · refine xild 19 ⟨u345, _, rfl⟩ rfl rfl ?_
    exact xret ⟨u345, _, rfl⟩ rfl (hR _ (by unfold bv; rw [if_neg (by omega)]; exact h2))
  · refine xild 11 ⟨u345, _, rfl⟩ rfl rfl ?_
    refine xif_eq 14 ⟨u345, _, rfl⟩ rfl (fun c11 => ?_) (fun c11 => ?_)
    · refine xild 19 ⟨u345, _, rfl⟩ rfl rfl ?_
      exact xret ⟨u345, _, rfl⟩ rfl (hR _ (by unfold bv; rw [if_neg (by omega)]; exact h2))
    · refine xild 15 ⟨u345, _, rfl⟩ rfl rfl ?_
      refine xild 16 ⟨u345, _, rfl⟩ rfl rfl ?_
      have q2 : -15 ≤ z2.toInt := by unfold bv at q; split at q <;> omega
      refine xadd 17 _ ⟨u345, _, rfl⟩ rfl rfl (by omega) (by omega) (fun z16 h16 => ?_)
      exact xret ⟨u345, _, rfl⟩ rfl (hR _ (by unfold bv; rw [if_pos (by omega)]; omega))
theorem k_twn {d V : Nat} {hp : amH} {R : xQ} {k : Int32} (hH : bHk 84 bTT hp) (hV : rN hp 3 0 = (V : Int)) (h3 : 3 ≤ V) (h15 : V ≤ 15) (hR : ∀ z : Int32, z.toInt = bv k.toInt (V : Int) → R (.inl (some (.int z))) hp) : xK (d + 1) 5 [.ref 3, .int k] hp R := by
  refine xin (M := am_m5) rfl rfl rfl ?_
  refine xald 1 ⟨u5, _, rfl⟩ rfl rfl ?_
  refine xgetC 4 hH ⟨u5, _, rfl⟩ rfl (by decide) (by decide) rfl rfl (by decide) (fun z1 h1 => ?_)
  refine xcst 5 (1) ⟨u5, _, rfl⟩ rfl (by decide) (fun z4 h4 => ?_)
  refine xcmp_ge 8 ⟨u5, _, rfl⟩ rfl (fun c5 => ?_) (fun c5 => ?_)
  · refine xild 13 ⟨u5, _, rfl⟩ rfl rfl ?_
    refine xald 14 ⟨u5, _, rfl⟩ rfl rfl ?_
    refine xgetC 17 hH ⟨u5, _, rfl⟩ rfl (by decide) (by decide) rfl rfl (by decide) (fun z14 h14 => ?_)
    refine xcallS 20 [.int _, .int _] [] hH ⟨u5, _, rfl⟩ rfl rfl rfl rfl rfl (k_flm (by omega) (by omega) (fun z17 h17 => ⟨_, rfl, ?_⟩))
    exact xret ⟨u5, _, rfl⟩ rfl (hR _ (by rw [h17, h14, hV]))
  · omega
