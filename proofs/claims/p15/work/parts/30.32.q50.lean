/-! ===== the coverage on both sides ===== -/
theorem xfcst (q : Nat) {M : amM} {pc a b d : Nat} {L : List (Option Value)} {st : List Value} {hp : amH} {Q : xQ} (h : xI M pc (.fconst 0) a b) (e : q = pc + 1) (hw : xV d M q L (.float FP.fconst0 :: st) hp Q) : xV d M pc L st hp Q := by
  refine xstep h (fun cl hl => ⟨cl, ?_, hl⟩) hw
  subst e
  simp [amDo, amStep]
theorem xi2f (q : Nat) {M : amM} {pc a b d : Nat} {L : List (Option Value)} {st : List Value} {hp : amH} {Q : xQ} {x : Int32} (h : xI M pc .i2f a b) (e : q = pc + 1) (hw : xV d M q L (.float (FP.i2f x) :: st) hp Q) : xV d M pc L (.int x :: st) hp Q := by
  refine xstep h (fun cl hl => ⟨cl, ?_, hl⟩) hw
  subst e
  simp [amDo, amStep, amI]
theorem xffdiv (q : Nat) {M : amM} {pc a b d : Nat} {L : List (Option Value)} {st : List Value} {hp : amH} {Q : xQ} {x y : UInt32} (h : xI M pc .fdiv a b) (e : q = pc + 1) (hc : FP.fdiv x y &&& 0x7fffffff ≤ 0x7f800000) (hw : xV d M q L (.float (FP.fdiv x y) :: st) hp Q) : xV d M pc L (.float y :: .float x :: st) hp Q := by
  refine xstep h (fun cl hl => ⟨cl, ?_, hl⟩) hw
  subst e
  simp only [amDo, amStep]
  rw [if_pos hc]
  rfl
theorem xretF {M : amM} {pc a b d : Nat} {L : List (Option Value)} {hp : amH} {Q : xQ} {x : UInt32} (h : xI M pc .freturn a b) (hr : M.2.2.2.2.1 = some .float) (hQ : Q (.inl (some (.float x))) hp) : xV d M pc L [.float x] hp Q := by
  intro cl hl
  obtain ⟨hu, r, hr2⟩ := h
  rw [hr2]
  refine bWp_ret (q := (pc, .freturn, a, b)) ?_ hQ
  simp [amDo, amRetV, hr]
/-- three times the triples through the pairs -/
def cgP (n V : Nat) (D : UInt32) : Prop := (∃ x y : Int32, x.toInt = ((3 * n : Nat) : Int) ∧ y.toInt = ((V * (V - 1) / 2 : Nat) : Int) ∧ D = FP.fdiv (FP.i2f x) (FP.i2f y)) ∧ FP.Core.decode FP.Core.b32 D.toNat ≠ .nan
theorem cgP_u {n V : Nat} {D E : UInt32} (h1 : cgP n V D) (h2 : cgP n V E) : D = E := by
  obtain ⟨⟨x, y, g1, g2, e2⟩, -⟩ := h1
  obtain ⟨⟨x2, y2, k1, k2, f2⟩, -⟩ := h2
  rw [e2, f2, x_eq.mpr (g1.trans k1.symm), x_eq.mpr (g2.trans k2.symm)]
theorem k_6E {d o V : Nat} {T : sT} {hp : amH} {R : xQ} (ho : bo o) (hH : bHk 84 bTT hp) (hB : bdOk hp o V T)
    (hR : ∀ z : Int32, z.toInt = ((V * (V - 1) / 2 : Nat) : Int) → R (.inl (some (.int z))) hp) : xK d 6 [.ref o] hp R := by
  have u6 : bUp 0 am_m6.1 = true := by decide +kernel
  have b0 : rN hp o 0 = (V : Int) := hB.1
  have h3 : 3 ≤ V := hB.2.1.1
  have h15 : V ≤ 15 := hB.2.1.2.1
  have ev : (V : Int) * ((V : Int) - 1) = ((V * (V - 1) : Nat) : Int) := by rw [show (V : Int) - 1 = ((V - 1 : Nat) : Int) by omega, ← Int.natCast_mul]
  have em : V * (V - 1) ≤ 15 * 14 := Nat.mul_le_mul h15 (by omega)
  generalize hw : V * (V - 1) = w at *
  refine xin (M := am_m6) rfl rfl rfl ?_
  refine xald 1 ⟨u6, _, rfl⟩ rfl rfl ?_
  refine xgetC 4 hH ⟨u6, _, rfl⟩ rfl (bo_lt ho) (by decide) (bo_T ho) rfl (by decide) (fun z1 h1 => ?_)
  refine xald 5 ⟨u6, _, rfl⟩ rfl rfl ?_
  refine xgetC 8 hH ⟨u6, _, rfl⟩ rfl (bo_lt ho) (by decide) (bo_T ho) rfl (by decide) (fun z5 h5 => ?_)
  refine xcst 9 (1) ⟨u6, _, rfl⟩ rfl (by decide) (fun z8 h8 => ?_)
  refine xsub 10 _ ⟨u6, _, rfl⟩ rfl rfl (by omega) (by omega) (fun z9 h9 => ?_)
  refine xmul 11 ((V : Int) * ((V : Int) - 1)) ⟨u6, _, rfl⟩ rfl (by rw [show Int32.toInt z1 = (V : Int) by omega, show Int32.toInt z9 = (V : Int) - 1 by omega]) (by omega) (by omega) (fun z10 h10 => ?_)
  rw [ev] at h10
  refine xcst 12 (2) ⟨u6, _, rfl⟩ rfl (by decide) (fun z11 h11 => ?_)
  refine xdiv 13 (Int32.toInt z10 / 2) ⟨u6, _, rfl⟩ rfl (by omega) (by omega) (by rw [h11]) (fun z12 h12 => ?_)
  exact xret ⟨u6, _, rfl⟩ rfl (hR _ (by omega))
theorem u161 : bUp 0 am_m161.1 = true := by decide +kernel
theorem k_161E {d V n : Nat} {h : Nat → sR} {sv : Option sR} {T : sT} {ty : Nat → Int} {hp : amH} {R : xQ} (hH : bHk 84 bTT hp) (hS : clS hp (V, T, ty) n h sv)
    (hR : ∀ (z : UInt32) hp1, bHk 84 bTT hp1 → cF hp hp1 → clS hp1 (V, T, ty) n h sv → cgP (trL T 225).length V z → R (.inl (some (.float z))) hp1) : xK (d + 3) 161 [.ref 0] hp R := by
  have hB : bdOk hp 3 V T := hS.1
  have b0 : rN hp 3 0 = (V : Int) := hB.1
  have hL : lsN hp 3 T 225 := hS.2.1
  have b1 : rN hp 3 1 = (((trL T 225).length : Nat) : Int) := hL.1
  have hT0 : sOk V T := hB.2.1
  have h15 : V ≤ 15 := hT0.2.1
  have l35 : (trL T 225).length ≤ 35 := trL_35 hT0 225
  have h3 : 3 ≤ V := hT0.1
  have k := op_half hT0
  have ec : opC V T = V * (V - 1) / 2 - 3 * (trL T 225).length := rfl
  have em : V * (V - 1) / 2 ≤ 15 * 14 / 2 := Nat.div_le_div_right (Nat.mul_le_mul h15 (by omega))
  have en : 3 * 2 / 2 ≤ V * (V - 1) / 2 := Nat.div_le_div_right (Nat.mul_le_mul h3 (by omega))
  refine xin (M := am_m161) rfl rfl rfl ?_
  refine xald 1 ⟨u161, _, rfl⟩ rfl rfl ?_
  refine xgetD 4 (3) hH ⟨u161, _, rfl⟩ rfl (by decide) (by decide) rfl rfl (by decide) ?_
  refine xcallC 7 (o := 3) [] [] hH ⟨u161, _, rfl⟩ rfl rfl (by decide) rfl (by decide) rfl ⟨rfl, rfl, rfl, rfl⟩ rfl (k_6E (o := 3) (Or.inl rfl) hH hB (fun z4 h4 => ⟨_, rfl, ?_⟩))
  refine xist 8 ⟨u161, _, rfl⟩ rfl rfl ?_
  refine xild 9 ⟨u161, _, rfl⟩ rfl rfl ?_
  refine xif_ne 12 ⟨u161, _, rfl⟩ rfl (fun c9 => ?_) (fun c9 => ?_)
  · refine xild 17 ⟨u161, _, rfl⟩ rfl rfl ?_
    refine xald 18 ⟨u161, _, rfl⟩ rfl rfl ?_
    refine xgetD 21 (3) hH ⟨u161, _, rfl⟩ rfl (by decide) (by decide) rfl rfl (by decide) ?_
    refine xcallC 24 (o := 3) [] [.int _] hH ⟨u161, _, rfl⟩ rfl rfl (by decide) rfl (by decide) rfl ⟨rfl, rfl, rfl, rfl⟩ rfl (k_23E (o := 3) (Or.inl rfl) hH hB (fun z21 h21 => ⟨_, rfl, ?_⟩))
    refine xsub 25 _ ⟨u161, _, rfl⟩ rfl rfl (by omega) (by omega) (fun z24 h24 => ?_)
    refine xi2f 26 ⟨u161, _, rfl⟩ rfl ?_
    refine xild 27 ⟨u161, _, rfl⟩ rfl rfl ?_
    refine xi2f 28 ⟨u161, _, rfl⟩ rfl ?_
    refine xffdiv 29 ⟨u161, _, rfl⟩ rfl ((fl_fdiv (fl_i2f _) (bI2_nz (by omega) (by omega)).1).1) ?_
    exact xretF ⟨u161, _, rfl⟩ rfl (hR _ _ hH cF.refl hS ⟨⟨z24, z4, by omega, by omega, rfl⟩, (fl_fdiv (fl_i2f _) (bI2_nz (by omega) (by omega)).1).2⟩)
  · refine xfcst 13 ⟨u161, _, rfl⟩ rfl ?_
    refine xgoto ⟨u161, _, rfl⟩ ?_
    exfalso
    omega
theorem u325 : bUp 0 am_m325.1 = true := by decide +kernel
theorem k_325E {d V n : Nat} {h : Nat → sR} {sv : Option sR} {T : sT} {ty : Nat → Int} {hp : amH} {R : xQ} (hH : bHk 84 bTT hp) (hP : P0 hp) (hS : rfS hp (V, T, ty) n h sv)
    (hR : ∀ (z : UInt32) hp1, bHk 84 bTT hp1 → P0 hp1 → bFr wM hp hp1 → rfS hp1 (V, T, ty) n h sv → cgP (trL T 225).length V z → R (.inl (some (.float z))) hp1) : xK (d + 4) 325 [.ref 66] hp R := by
  have hB : rdOk hp V T := rowOk_rd hS.1
  have b0 : rN hp 67 0 = (V : Int) := hB.1
  have hT0 : sOk V T := hB.2.1
  have h15 : V ≤ 15 := hT0.2.1
  have l35 : (trL T 225).length ≤ 35 := trL_35 hT0 225
  have h3 : 3 ≤ V := hT0.1
  have k := op_half hT0
  have ec : opC V T = V * (V - 1) / 2 - 3 * (trL T 225).length := rfl
  have em : V * (V - 1) / 2 ≤ 15 * 14 / 2 := Nat.div_le_div_right (Nat.mul_le_mul h15 (by omega))
  have en : 3 * 2 / 2 ≤ V * (V - 1) / 2 := Nat.div_le_div_right (Nat.mul_le_mul h3 (by omega))
  have ev : (V : Int) * ((V : Int) - 1) / 2 = ((V * (V - 1) / 2 : Nat) : Int) := by
    rw [show (V : Int) - 1 = ((V - 1 : Nat) : Int) by omega, ← Int.natCast_mul]
    rfl
  refine xin (M := am_m325) rfl rfl rfl ?_
  refine xald 1 ⟨u325, _, rfl⟩ rfl rfl ?_
  refine xcst 2 (0) ⟨u325, _, rfl⟩ rfl (by decide) (fun z1 h1 => ?_)
  refine xputI 5 hH ⟨u325, _, rfl⟩ rfl rfl ⟨rfl, rfl⟩ (by omega) (by omega) (fun hp2 hH2 U2 => ?_)
  have s2 := U2.1
  have S2 := rfS_W (W := [(66, 7)]) hS (rU_fr U2 rfl) (fun _ => rfl) rfl rfl (fun _ => rfl) (fun _ => rfl)
  have P2 := P0_W (W := [(66, 7)]) (by decide) (rU_fr U2 rfl) hP
  have B2 := rowOk_rd S2.1
  refine xcst 6 (3) ⟨u325, _, rfl⟩ rfl (by decide) (fun z5 h5 => ?_)
  refine xald 7 ⟨u325, _, rfl⟩ rfl rfl ?_
  refine xcall 10 [.ref 66] [.int _] hH2 ⟨u325, _, rfl⟩ rfl rfl rfl rfl rfl (k_rtm hH2 B2 (fun z7 hp7 hH7 F7 B7 L7 h7 => ⟨_, rfl, ?_⟩))
  have P7 := P0_W (W := bLT) (by decide) F7 P2
  refine xmul 11 (3 * Int32.toInt z7) ⟨u325, _, rfl⟩ rfl (by rw [h5]) (by omega) (by omega) (fun z10 h10 => ?_)
  refine xi2f 12 ⟨u325, _, rfl⟩ rfl ?_
  refine xald 13 ⟨u325, _, rfl⟩ rfl rfl ?_
  refine xcall 16 [.ref 66] [.float _] hH7 ⟨u325, _, rfl⟩ rfl rfl rfl rfl rfl (k_pairs hH7 P7 (fun z13 h13 => ⟨_, rfl, ?_⟩))
  rw [B7.1, ev] at h13
  refine xi2f 17 ⟨u325, _, rfl⟩ rfl ?_
  refine xffdiv 18 ⟨u325, _, rfl⟩ rfl ((fl_fdiv (fl_i2f _) (bI2_nz (by omega) (by omega)).1).1) ?_
  exact xretF ⟨u325, _, rfl⟩ rfl (hR _ hp7 hH7 P7 ((rU_fr U2 (by decide)).trans (bFr_sub F7 (by decide))) (rfS_W S2 F7 (fun _ => rfl) rfl rfl (fun _ => rfl) (fun _ => rfl)) ⟨⟨z10, z13, by omega, by omega, rfl⟩, (fl_fdiv (fl_i2f _) (bI2_nz (by omega) (by omega)).1).2⟩)
