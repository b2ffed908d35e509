/-! ===== the mean of quadrilaterals on both sides ===== -/
theorem xdcst (q : Nat) {M : amM} {pc a b d : Nat} {L : List (Option Value)} {st : List Value} {hp : amH} {Q : xQ} (h : xI M pc (.dconst 0) a b) (e : q = pc + 1) (hw : xV d M q L (.double FP.dconst0 :: st) hp Q) : xV d M pc L st hp Q := by
  refine xstep h (fun cl hl => ⟨cl, ?_, hl⟩) hw
  subst e
  simp [amDo, amStep]
theorem xi2d (q : Nat) {M : amM} {pc a b d : Nat} {L : List (Option Value)} {st : List Value} {hp : amH} {Q : xQ} {x : Int32} (h : xI M pc .i2d a b) (e : q = pc + 1) (hw : xV d M q L (.double (FP.i2d x) :: st) hp Q) : xV d M pc L (.int x :: st) hp Q := by
  refine xstep h (fun cl hl => ⟨cl, ?_, hl⟩) hw
  subst e
  simp [amDo, amStep, amI]
theorem xdddiv (q : Nat) {M : amM} {pc a b d : Nat} {L : List (Option Value)} {st : List Value} {hp : amH} {Q : xQ} {x y : UInt64} (h : xI M pc .ddiv a b) (e : q = pc + 1) (hc : FP.ddiv x y &&& 0x7fffffffffffffff ≤ 0x7ff0000000000000) (hw : xV d M q L (.double (FP.ddiv x y) :: st) hp Q) : xV d M pc L (.double y :: .double x :: st) hp Q := by
  refine xstep h (fun cl hl => ⟨cl, ?_, hl⟩) hw
  subst e
  simp only [amDo, amStep]
  rw [if_pos hc]
  rfl
theorem xretD {M : amM} {pc a b d : Nat} {L : List (Option Value)} {hp : amH} {Q : xQ} {x : UInt64} (h : xI M pc .dreturn a b) (hr : M.2.2.2.2.1 = some .double) (hQ : Q (.inl (some (.double x))) hp) : xV d M pc L [.double x] hp Q := by
  intro cl hl
  obtain ⟨hu, r, hr2⟩ := h
  rw [hr2]
  refine bWp_ret (q := (pc, .dreturn, a, b)) ?_ hQ
  simp [amDo, amRetV, hr]
/-- four times the quadrilaterals through the triples -/
def mqP (q n : Nat) (D : UInt64) : Prop := (n = 0 ∧ D = FP.dconst0) ∨ (¬ n = 0 ∧ ∃ x y : Int32, x.toInt = ((4 * q : Nat) : Int) ∧ y.toInt = (n : Int) ∧ D = FP.ddiv (FP.i2d x) (FP.i2d y))
theorem mqP_u {q n : Nat} {D E : UInt64} (h1 : mqP q n D) (h2 : mqP q n E) : D = E := by
  rcases h1 with ⟨e1, e2⟩ | ⟨e1, x, y, g1, g2, e2⟩ <;> rcases h2 with ⟨f1, f2⟩ | ⟨f1, x2, y2, k1, k2, f2⟩
  · rw [e2, f2]
  · exact absurd e1 f1
  · exact absurd f1 e1
  · rw [e2, f2, x_eq.mpr (g1.trans k1.symm), x_eq.mpr (g2.trans k2.symm)]
theorem u160 : bUp 0 am_m160.1 = true := by decide +kernel
theorem k_160E {d V n : Nat} {h : Nat → sR} {sv : Option sR} {T : sT} {ty : Nat → Int} {hp : amH} {R : xQ} (hH : bHk 84 bTT hp) (hS : clS hp (V, T, ty) n h sv)
    (hR : ∀ (z : UInt64) hp1, bHk 84 bTT hp1 → cF hp hp1 → clS hp1 (V, T, ty) n h sv → mqP (nQ T) (trL T 225).length z → R (.inl (some (.double z))) hp1) : xK (d + 1) 160 [.ref 0] hp R := by
  have hB : bdOk hp 3 V T := hS.1
  have b0 : rN hp 3 0 = (V : Int) := hB.1
  have hL : lsN hp 3 T 225 := hS.2.1
  have b1 : rN hp 3 1 = (((trL T 225).length : Nat) : Int) := hL.1
  have hT0 : sOk V T := hB.2.1
  have h15 : V ≤ 15 := hT0.2.1
  have l35 : (trL T 225).length ≤ 35 := trL_35 hT0 225
  have b2 : rN hp 49 0 = ((nQ T : Nat) : Int) := hS.2.2.1.1
  have h105 : nQ T ≤ 105 := q105 hT0
  refine xin (M := am_m160) rfl rfl rfl ?_
  refine xald 1 ⟨u160, _, rfl⟩ rfl rfl ?_
  refine xgetD 4 (3) hH ⟨u160, _, rfl⟩ rfl (by decide) (by decide) rfl rfl (by decide) ?_
  refine xgetC 7 hH ⟨u160, _, rfl⟩ rfl (by decide) (by decide) rfl rfl (by decide) (fun z4 h4 => ?_)
  refine xif_ne 10 ⟨u160, _, rfl⟩ rfl (fun c7 => ?_) (fun c7 => ?_)
  · refine xcst 15 (4) ⟨u160, _, rfl⟩ rfl (by decide) (fun z14 h14 => ?_)
    refine xald 16 ⟨u160, _, rfl⟩ rfl rfl ?_
    refine xgetD 19 (49) hH ⟨u160, _, rfl⟩ rfl (by decide) (by decide) rfl rfl (by decide) ?_
    refine xgetC 22 hH ⟨u160, _, rfl⟩ rfl (by decide) (by decide) rfl rfl (by decide) (fun z19 h19 => ?_)
    refine xmul 23 (4 * Int32.toInt z19) ⟨u160, _, rfl⟩ rfl (by rw [h14]) (by omega) (by omega) (fun z22 h22 => ?_)
    refine xi2d 24 ⟨u160, _, rfl⟩ rfl ?_
    refine xald 25 ⟨u160, _, rfl⟩ rfl rfl ?_
    refine xgetD 28 (3) hH ⟨u160, _, rfl⟩ rfl (by decide) (by decide) rfl rfl (by decide) ?_
    refine xgetC 31 hH ⟨u160, _, rfl⟩ rfl (by decide) (by decide) rfl rfl (by decide) (fun z28 h28 => ?_)
    refine xi2d 32 ⟨u160, _, rfl⟩ rfl ?_
    refine xdddiv 33 ⟨u160, _, rfl⟩ rfl (fl_ddiv (fl_i2d _) (bI2_nz (by omega) (by omega)).2) ?_
    exact xretD ⟨u160, _, rfl⟩ rfl (hR _ _ hH cF.refl hS (Or.inr ⟨by omega, z22, z28, by omega, by omega, rfl⟩))
  · refine xdcst 11 ⟨u160, _, rfl⟩ rfl ?_
    refine xgoto ⟨u160, _, rfl⟩ ?_
    exact xretD ⟨u160, _, rfl⟩ rfl (hR _ _ hH cF.refl hS (Or.inl ⟨by omega, rfl⟩))
theorem u296 : bUp 0 am_m296.1 = true := by decide +kernel
theorem k_296E {d V n : Nat} {h : Nat → sR} {sv : Option sR} {T : sT} {ty : Nat → Int} {hp : amH} {R : xQ} (hH : bHk 84 bTT hp) (hP : P0 hp) (hS : rfS hp (V, T, ty) n h sv)
    (hR : ∀ (z : UInt64) hp1, bHk 84 bTT hp1 → P0 hp1 → bFr wM hp hp1 → rfS hp1 (V, T, ty) n h sv → mqP (nQ T) (trL T 225).length z → R (.inl (some (.double z))) hp1) : xK (d + 5) 296 [.ref 66] hp R := by
  have hB : rdOk hp V T := rowOk_rd hS.1
  have b0 : rN hp 67 0 = (V : Int) := hB.1
  have hT0 : sOk V T := hB.2.1
  have h15 : V ≤ 15 := hT0.2.1
  have l35 : (trL T 225).length ≤ 35 := trL_35 hT0 225
  have h105 : nQ T ≤ 105 := q105 hT0
  refine xin (M := am_m296) rfl rfl rfl ?_
  refine xald 1 ⟨u296, _, rfl⟩ rfl rfl ?_
  refine xcst 2 (0) ⟨u296, _, rfl⟩ rfl (by decide) (fun z1 h1 => ?_)
  refine xputI 5 hH ⟨u296, _, rfl⟩ rfl rfl ⟨rfl, rfl⟩ (by omega) (by omega) (fun hp2 hH2 U2 => ?_)
  have s2 := U2.1
  have S2 := rfS_W (W := [(66, 7)]) hS (rU_fr U2 rfl) (fun _ => rfl) rfl rfl (fun _ => rfl) (fun _ => rfl)
  have P2 := P0_W (W := [(66, 7)]) (by decide) (rU_fr U2 rfl) hP
  have B2 := rowOk_rd S2.1
  refine xald 6 ⟨u296, _, rfl⟩ rfl rfl ?_
  refine xcall 9 [.ref 66] [] hH2 ⟨u296, _, rfl⟩ rfl rfl rfl rfl rfl (k_lqs hH2 B2 (q105 hT0) (fun hp6 hH6 F6 B6 L6 Q6 => ⟨_, rfl, ?_⟩))
  have q6 : rN hp6 66 14 = ((nQ T : Nat) : Int) := Q6.1
  have l6 : rN hp6 66 12 = (((trL T 225).length : Nat) : Int) := L6.1
  refine xald 10 ⟨u296, _, rfl⟩ rfl rfl ?_
  refine xgetI 13 hH6 ⟨u296, _, rfl⟩ rfl rfl (fun z10 h10 => ?_)
  refine xif_ne 16 ⟨u296, _, rfl⟩ rfl (fun c13 => ?_) (fun c13 => ?_)
  · refine xcst 21 (4) ⟨u296, _, rfl⟩ rfl (by decide) (fun z20 h20 => ?_)
    refine xald 22 ⟨u296, _, rfl⟩ rfl rfl ?_
    refine xgetI 25 hH6 ⟨u296, _, rfl⟩ rfl rfl (fun z22 h22 => ?_)
    refine xmul 26 (4 * Int32.toInt z22) ⟨u296, _, rfl⟩ rfl (by rw [h20]) (by omega) (by omega) (fun z25 h25 => ?_)
    refine xi2d 27 ⟨u296, _, rfl⟩ rfl ?_
    refine xald 28 ⟨u296, _, rfl⟩ rfl rfl ?_
    refine xgetI 31 hH6 ⟨u296, _, rfl⟩ rfl rfl (fun z28 h28 => ?_)
    refine xi2d 32 ⟨u296, _, rfl⟩ rfl ?_
    refine xdddiv 33 ⟨u296, _, rfl⟩ rfl (fl_ddiv (fl_i2d _) (bI2_nz (by omega) (by omega)).2) ?_
    exact xretD ⟨u296, _, rfl⟩ rfl (hR _ hp6 hH6 (P0_W (W := wLQE) (by decide) F6 P2) ((rU_fr U2 (by decide)).trans (bFr_sub F6 (by decide))) (rfS_W S2 F6 (fun _ => rfl) rfl rfl (fun _ => rfl) (fun _ => rfl)) (Or.inr ⟨by omega, z25, z31, by omega, by omega, rfl⟩))
  · refine xdcst 17 ⟨u296, _, rfl⟩ rfl ?_
    refine xgoto ⟨u296, _, rfl⟩ ?_
    exact xretD ⟨u296, _, rfl⟩ rfl (hR _ hp6 hH6 (P0_W (W := wLQE) (by decide) F6 P2) ((rU_fr U2 (by decide)).trans (bFr_sub F6 (by decide))) (rfS_W S2 F6 (fun _ => rfl) rfl rfl (fun _ => rfl) (fun _ => rfl)) (Or.inl ⟨by omega, rfl⟩))
