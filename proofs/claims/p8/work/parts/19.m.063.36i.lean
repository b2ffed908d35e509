/-! ===== clear and force: the class ===== -/
theorem u168 : bUp 0 am_m168.1 = true := by decide +kernel
theorem u170 : bUp 0 am_m170.1 = true := by decide +kernel
theorem k_168E {d V n : Nat} {h : Nat → sR} {sv : Option sR} {T : sT} {ty : Nat → Int} {hp : amH} {R : xQ} {a : Int32} (hH : bHk 84 bTT hp) (hS : clS hp (V, T, ty) n h sv)
    (hT : ¬ gPt V a.toInt = 0 → R (.inr 1) hp)
    (hR : ∀ (z : Int32) hp1, bHk 84 bTT hp1 → cF hp hp1 → gPt V a.toInt = 0 → clS hp1 (V, dP (mtB T (2 ^ a.toInt.toNat) 1) T 225, ty) (pM n + 1) (pH n h (V, T, ty)) sv → z.toInt + (((trL (dP (mtB T (2 ^ a.toInt.toNat) 1) T 225) 225).length : Nat) : Int) = (((trL T 225).length : Nat) : Int) → R (.inl (some (.int z))) hp1) : xK (d + 6) 168 [.ref 0, .int a] hp R := by
  have hB : bdOk hp 3 V T := hS.1
  have hV := hB.2.1.2.1
  refine xin (M := am_m168) rfl rfl rfl ?_
  refine xald 1 ⟨u168, _, rfl⟩ rfl rfl ?_
  refine xild 2 ⟨u168, _, rfl⟩ rfl rfl ?_
  refine xcallT 5 (o := 0) [.int _] [] hH ⟨u168, _, rfl⟩ rfl rfl (by decide) rfl (by decide) rfl ⟨rfl, rfl, rfl, rfl⟩ rfl (k_rq1 hH hB.1 (fun g2 => Or.inl ⟨_, rfl, ?_⟩) (fun g2 => Or.inr ⟨_, rfl, rfl, hT (by omega)⟩))
  have k2 := gPt_0.mp g2
  refine xald 6 ⟨u168, _, rfl⟩ rfl rfl ?_
  refine xcallC 9 (o := 0) [] [] hH ⟨u168, _, rfl⟩ rfl rfl (by decide) rfl (by decide) rfl ⟨rfl, rfl, rfl, rfl⟩ rfl (k_cmS hH hS (fun hp6 hH6 F6 S6 => ⟨_, rfl, ?_⟩))
  refine xald 10 ⟨u168, _, rfl⟩ rfl rfl ?_
  refine xgetD 13 (3) hH6 ⟨u168, _, rfl⟩ rfl (by decide) (by decide) rfl rfl (by decide) ?_
  refine xcst 14 (1) ⟨u168, _, rfl⟩ rfl (by decide) (fun z13 h13 => ?_)
  refine xild 15 ⟨u168, _, rfl⟩ rfl rfl ?_
  refine xshl 16 ⟨u168, _, rfl⟩ rfl ?_
  have w1 := i_shl h13 (n := a.toInt.toNat) (c := a) (by omega) (by omega)
  refine xcst 17 (1) ⟨u168, _, rfl⟩ rfl (by decide) (fun z16 h16 => ?_)
  refine xcallC 20 (o := 3) [.int _, .int _] [] hH6 ⟨u168, _, rfl⟩ rfl rfl (by decide) rfl (by decide) rfl ⟨rfl, rfl, rfl, rfl⟩ rfl (k_27E hH6 (V := V) (T := T) (m := 2 ^ a.toInt.toNat) S6.1 S6.2.1 w1.1 w1.2 (fun z17 hp17 hH17 F17 B17 e17 => ⟨_, rfl, ?_⟩))
  rw [h16] at B17 e17
  refine xist 21 ⟨u168, _, rfl⟩ rfl rfl ?_
  refine xald 22 ⟨u168, _, rfl⟩ rfl rfl ?_
  refine xcallC 25 (o := 0) [] [] hH17 ⟨u168, _, rfl⟩ rfl rfl (by decide) rfl (by decide) rfl ⟨rfl, rfl, rfl, rfl⟩ rfl (k_stS hH17 (ty := ty) B17 (fun i hi => (bFx_n F17 (by simp)).trans (S6.2.2.2.1 i hi)) (hyC_fr S6.2.2.2.2 (fun c k c1 c2 => F17 c k (by simp; omega))) (fun hp22 hH22 F22 S22 => ⟨_, rfl, ?_⟩))
  refine xild 26 ⟨u168, _, rfl⟩ rfl rfl ?_
  exact xret ⟨u168, _, rfl⟩ rfl (hR _ hp22 hH22 ((cF_hy F6).trans ((cF_x F17 (by simp)).trans (cF_x F22 (by simp)))) g2 S22 e17)
/-- whether a triple can be forced: 0, else what is thrown -/
def fCd (V : Nat) (T : sT) (a b c : Int) : Int := if ¬ gSet V a b c = 0 then gSet V a b c else if T a.toNat b.toNat = c then 3 else 0
theorem fCd_1 {V : Nat} {T : sT} {a b c : Int} (h : ¬ gSet V a b c = 0) : fCd V T a b c = gSet V a b c := by unfold fCd; rw [if_pos h]
theorem fCd_3 {V : Nat} {T : sT} {a b c : Int} (h : gSet V a b c = 0) (h2 : T a.toNat b.toNat = c) : fCd V T a b c = 3 := by unfold fCd; rw [if_neg (fun z => z h), if_pos h2]
theorem fCd_2 {V : Nat} {T : sT} {a b c : Int} (h : gSet V a b c = 0) (h2 : ¬ T a.toNat b.toNat = c) : fCd V T a b c = 0 := by unfold fCd; rw [if_neg (fun z => z h), if_neg h2]
