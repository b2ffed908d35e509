/-! ===== ways by hand: swap, turn ===== -/
theorem k_swapped {d : Nat} {hp : amH} {R : xQ} {p a b : Int32} (hR : ∀ z : Int32, (z.toInt = if p.toInt = a.toInt then b.toInt else if p.toInt = b.toInt then a.toInt else p.toInt) → R (.inl (some (.int z))) hp) : xK d 280 [.int p, .int a, .int b] hp R := by
  refine xin (M := am_m280) rfl rfl rfl ?_
  refine xild 1 ⟨u280, _, rfl⟩ rfl rfl ?_
  refine xild 2 ⟨u280, _, rfl⟩ rfl rfl ?_
  refine xcmp_ne 5 ⟨u280, _, rfl⟩ rfl (fun c2 => ?_) (fun c2 => ?_)
  · refine xild 10 ⟨u280, _, rfl⟩ rfl rfl ?_
    refine xild 11 ⟨u280, _, rfl⟩ rfl rfl ?_
    refine xcmp_ne 14 ⟨u280, _, rfl⟩ rfl (fun c11 => ?_) (fun c11 => ?_)
    · refine xild 19 ⟨u280, _, rfl⟩ rfl rfl ?_
      exact xret ⟨u280, _, rfl⟩ rfl (hR _ (by rw [if_neg (by omega), if_neg (by omega)]))
    · refine xild 15 ⟨u280, _, rfl⟩ rfl rfl ?_
      refine xgoto ⟨u280, _, rfl⟩ ?_
      exact xret ⟨u280, _, rfl⟩ rfl (hR _ (by rw [if_neg (by omega), if_pos (by omega)]))
  · refine xild 6 ⟨u280, _, rfl⟩ rfl rfl ?_
    refine xgoto ⟨u280, _, rfl⟩ ?_
    exact xret ⟨u280, _, rfl⟩ rfl (hR _ (by rw [if_pos (by omega)]))
theorem xremG {M : amM} {pc a b d : Nat} {L : List (Option Value)} {st : List Value} {hp : amH} {Q : xQ} (q : Nat) {x y : Int32} (h : xI M pc .irem a b) (e : q = pc + 1) (hy : 0 < y.toInt) (hw : ∀ z : Int32, z.toInt = x.toInt.tmod y.toInt → xV d M q L (.int z :: st) hp Q) : xV d M pc L (.int y :: .int x :: st) hp Q := by
  have hy0 : ¬ y = 0 := fun z => by rw [z] at hy; exact absurd hy (by decide)
  refine xstep h (fun cl hl => ⟨cl, ?_, hl⟩) (hw (x - x / y * y) (rem_toInt _ _))
  subst e
  simp [amDo, amStep, amDiv, hy0]
def bv (k p : Int) : Int := if k.tmod p < 0 then k.tmod p + p else k.tmod p
theorem bv_in {k p : Int} (hp : 0 < p) : 0 ≤ bv k p ∧ bv k p < p := by
  have h1 : (k.tmod p).natAbs < p.natAbs := by
    rw [Int.natAbs_tmod]
    exact Nat.mod_lt _ (by omega)
  unfold bv
  split <;> omega
theorem u234 : bUp 0 am_m234.1 = true := by decide +kernel
theorem k_by {d : Nat} {hp : amH} {R : xQ} {k : Int32} (hH : bHk 84 bTT hp) (hP : P0 hp) (hR : ∀ z : Int32, z.toInt = bv k.toInt (rN hp 67 0) → R (.inl (some (.int z))) hp) : xK (d + 1) 234 [.ref 66, .int k] hp R := by
  refine xin (M := am_m234) rfl rfl rfl ?_
  have q1 := hP.1.1
  have q2 := hP.1.2.1
  have hb := bv_in (k := k.toInt) (p := rN hp 67 0) (by omega)
  refine xild 1 ⟨u234, _, rfl⟩ rfl rfl ?_
  refine xald 2 ⟨u234, _, rfl⟩ rfl rfl ?_
  refine xcall 5 [.ref 66] [.int _] hH ⟨u234, _, rfl⟩ rfl rfl rfl rfl rfl (k_points hH (fun z2 h2 => ⟨_, rfl, ?_⟩))
  refine xremG 6 ⟨u234, _, rfl⟩ rfl (by omega) (fun z5 h5 => ?_)
  rw [h2] at h5
  have hlt : (k.toInt.tmod (rN hp 67 0)).natAbs < (rN hp 67 0).natAbs := by
    rw [Int.natAbs_tmod]
    exact Nat.mod_lt _ (by omega)
  refine xist 7 ⟨u234, _, rfl⟩ rfl rfl ?_
  refine xild 8 ⟨u234, _, rfl⟩ rfl rfl ?_
  refine xif_ge 11 ⟨u234, _, rfl⟩ rfl (fun c8 => ?_) (fun c8 => ?_)
  · refine xild 21 ⟨u234, _, rfl⟩ rfl rfl ?_
    exact xret ⟨u234, _, rfl⟩ rfl (hR _ (by unfold bv; rw [if_neg (by omega)]; exact h5))
  · refine xild 12 ⟨u234, _, rfl⟩ rfl rfl ?_
    refine xald 13 ⟨u234, _, rfl⟩ rfl rfl ?_
    refine xcall 16 [.ref 66] [.int _] hH ⟨u234, _, rfl⟩ rfl rfl rfl rfl rfl (k_points hH (fun z13 h13 => ⟨_, rfl, ?_⟩))
    refine xadd 17 _ ⟨u234, _, rfl⟩ rfl rfl (by omega) (by omega) (fun z16 h16 => ?_)
    refine xgoto ⟨u234, _, rfl⟩ ?_
    exact xret ⟨u234, _, rfl⟩ rfl (hR _ (by unfold bv; rw [if_pos (by omega)]; omega))
