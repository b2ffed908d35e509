/-! ===== apart on both sides ===== -/
theorem bc_pos {m : Nat} (h : m < 32768) : (1 ≤ bcN m ↔ ¬ m = 0) := by
  rw [bc_pq h]
  unfold pq
  omega
def apC (T : sT) (m t : Nat) : Nat := sm (fun s => iv (mN T s &&& m = 0)) t
theorem apC_mt {V : Nat} {T : sT} (hT : sOk V T) {m : Nat} : ∀ t, t ≤ (trL T 225).length → apC T m t + mtC T m 1 t = t
  | 0, _ => rfl
  | t + 1, h => by
    have h1 := apC_mt hT (m := m) t (by omega)
    have ml := (mN_lt hT (show t < (trL T 225).length by omega)).1
    have k := bc_pos (m := mN T t &&& m) (Nat.lt_of_le_of_lt Nat.and_le_left ml)
    show (apC T m t + iv (mN T t &&& m = 0)) + (mtC T m 1 t + iv (1 ≤ bcN (mN T t &&& m))) = t + 1
    by_cases g : mN T t &&& m = 0
    · rw [iv_t g, iv_f (p := 1 ≤ bcN (mN T t &&& m)) (fun z => k.mp z g)]; omega
    · rw [iv_f g, iv_t (p := 1 ≤ bcN (mN T t &&& m)) (k.mpr g)]; omega
theorem u165 : bUp 0 am_m165.1 = true := by decide +kernel
theorem k_165E {d V n : Nat} {h : Nat → sR} {sv : Option sR} {T : sT} {ty : Nat → Int} {hp : amH} {R : xQ} {a : Int32} (hH : bHk 84 bTT hp) (hS : clS hp (V, T, ty) n h sv)
    (hT : ∀ E hp1, bHk 84 bTT hp1 → cF hp hp1 → clS hp1 (V, T, ty) n h sv → ¬ gTri (trL T 225).length a.toInt = 0 → ((gTri (trL T 225).length a.toInt = 1 ∧ E = 1)) → R (.inr E) hp1)
    (hR : ∀ (z : Int32) hp1, bHk 84 bTT hp1 → cF hp hp1 → gTri (trL T 225).length a.toInt = 0 → clS hp1 (V, T, ty) n h sv → z.toInt = (((trL T 225).length : Nat) : Int) - ((mtC T (mN T a.toInt.toNat) 1 (trL T 225).length : Nat) : Int) → R (.inl (some (.int z))) hp1) : xK (d + 3) 165 [.ref 0, .int a] hp R := by
  have hB : bdOk hp 3 V T := hS.1
  have b0 : rN hp 3 0 = (V : Int) := hB.1
  have hL : lsN hp 3 T 225 := hS.2.1
  have b1 : rN hp 3 1 = (((trL T 225).length : Nat) : Int) := hL.1
  have hT0 : sOk V T := hB.2.1
  have h15 : V ≤ 15 := hT0.2.1
  have l35 : (trL T 225).length ≤ 35 := trL_35 hT0 225
  refine xin (M := am_m165) rfl rfl rfl ?_
  refine xald 1 ⟨u165, _, rfl⟩ rfl rfl ?_
  refine xild 2 ⟨u165, _, rfl⟩ rfl rfl ?_
  refine xcallT 5 (o := 0) [.int _] [] hH ⟨u165, _, rfl⟩ rfl rfl (by decide) rfl (by decide) rfl ⟨rfl, rfl, rfl, rfl⟩ rfl (k_rqt hH b1 (fun g2 => Or.inl ⟨_, rfl, ?_⟩) (fun g2 => Or.inr ⟨_, rfl, rfl, hT _ hp hH cF.refl hS (by omega) ⟨g2, rfl⟩⟩))
  have k2 := gTri_0.mp g2
  refine xald 6 ⟨u165, _, rfl⟩ rfl rfl ?_
  refine xgetD 9 (3) hH ⟨u165, _, rfl⟩ rfl (by decide) (by decide) rfl rfl (by decide) ?_
  refine xgetC 12 hH ⟨u165, _, rfl⟩ rfl (by decide) (by decide) rfl rfl (by decide) (fun z9 h9 => ?_)
  refine xald 13 ⟨u165, _, rfl⟩ rfl rfl ?_
  refine xgetD 16 (3) hH ⟨u165, _, rfl⟩ rfl (by decide) (by decide) rfl rfl (by decide) ?_
  refine xald 17 ⟨u165, _, rfl⟩ rfl rfl ?_
  refine xgetD 20 (3) hH ⟨u165, _, rfl⟩ rfl (by decide) (by decide) rfl rfl (by decide) ?_
  refine xild 21 ⟨u165, _, rfl⟩ rfl rfl ?_
  refine xcallC 24 (o := 3) [.int _] [.ref 3, .int _] hH ⟨u165, _, rfl⟩ rfl rfl (by decide) rfl (by decide) rfl ⟨rfl, rfl, rfl, rfl⟩ rfl (k_setL hH hL (t := a.toInt.toNat) (by omega) (by omega) (fun z21 h21 => ⟨_, rfl, ?_⟩))
  refine xcst 25 (1) ⟨u165, _, rfl⟩ rfl (by decide) (fun z24 h24 => ?_)
  refine xcallC 28 (o := 3) [.int _, .int _] [.int _] hH ⟨u165, _, rfl⟩ rfl rfl (by decide) rfl (by decide) rfl ⟨rfl, rfl, rfl, rfl⟩ rfl (k_26E (m := mN T a.toInt.toNat) hT0 hH hL h21 (mN_lt hT0 (show a.toInt.toNat < (trL T 225).length by omega)).1 (fun z25 h25 => ⟨_, rfl, ?_⟩))
  rw [h24] at h25
  have l25 := mtC_le (T := T) (m := mN T a.toInt.toNat) (c := 1) (trL T 225).length
  refine xsub 29 _ ⟨u165, _, rfl⟩ rfl rfl (by omega) (by omega) (fun z28 h28 => ?_)
  exact xret ⟨u165, _, rfl⟩ rfl (hR _ _ hH cF.refl g2 hS (by omega))
theorem u332 : bUp 0 am_m332.1 = true := by decide +kernel
theorem l332E {d V p : Nat} {T : sT} {hp : amH} {R : xQ} {a : Int32} (hH : bHk 84 bTT hp) (hT : sOk V T) (hL : rlN hp T 225) (ha : a.toInt = (p : Int)) (hp0 : p < (trL T 225).length)
    (hR : ∀ z : Int32, z.toInt = ((apC T (mN T p) (trL T 225).length : Nat) : Int) → R (.inl (some (.int z))) hp) :
    ∀ (jj t : Nat) (w wt : Int32), wt.toInt = (t : Int) → t + jj = (trL T 225).length → w.toInt = ((apC T (mN T p) t : Nat) : Int) → xV d am_m332 14 [some (.ref 66), some (.int a), some (.int w), some (.int wt)] [] hp R := by
  have l35 := trL_35 hT 225
  have L1 := hL.1
  have Lp := (hL.2 p hp0).2.2.2
  have mp := (mN_lt hT hp0).1
  intro jj
  induction jj with
  | zero =>
    intro t w wt hwt hj hw
    have et : (trL T 225).length = t := by omega
    have hR2 : ∀ z : Int32, z.toInt = ((apC T (mN T p) t : Nat) : Int) → R (.inl (some (.int z))) hp := by rw [← et]; exact hR
    refine xild 15 ⟨u332, _, rfl⟩ rfl rfl ?_
    refine xald 16 ⟨u332, _, rfl⟩ rfl rfl ?_
    refine xgetI 19 hH ⟨u332, _, rfl⟩ rfl rfl (fun z16 h16 => ?_)
    refine xcmp_ge 22 ⟨u332, _, rfl⟩ rfl (fun c19 => ?_) (fun c19 => ?_)
    · refine xild 53 ⟨u332, _, rfl⟩ rfl rfl ?_
      exact xret ⟨u332, _, rfl⟩ rfl (hR2 _ hw)
    · omega
  | succ jj ih =>
    intro t w wt hwt hj hw
    have k2 := apC_mt hT (m := mN T p) t (by omega)
    have Lt := (hL.2 t (by omega)).2.2.2
    have ml := (mN_lt hT (show t < (trL T 225).length by omega)).1
    refine xild 15 ⟨u332, _, rfl⟩ rfl rfl ?_
    refine xald 16 ⟨u332, _, rfl⟩ rfl rfl ?_
    refine xgetI 19 hH ⟨u332, _, rfl⟩ rfl rfl (fun z16 h16 => ?_)
    refine xcmp_ge 22 ⟨u332, _, rfl⟩ rfl (fun c19 => ?_) (fun c19 => ?_)
    · omega
    · refine xild 23 ⟨u332, _, rfl⟩ rfl rfl ?_
      refine xald 24 ⟨u332, _, rfl⟩ rfl rfl ?_
      refine xgetR 27 75 hH ⟨u332, _, rfl⟩ rfl rfl ?_
      refine xild 28 ⟨u332, _, rfl⟩ rfl rfl ?_
      refine xiald 29 (wt).toInt.toNat hH ⟨u332, _, rfl⟩ rfl (by decide) rfl (by omega) (by omega) (fun z28 h28 => ?_)
      refine xald 30 ⟨u332, _, rfl⟩ rfl rfl ?_
      refine xgetR 33 75 hH ⟨u332, _, rfl⟩ rfl rfl ?_
      refine xild 34 ⟨u332, _, rfl⟩ rfl rfl ?_
      refine xiald 35 (a).toInt.toNat hH ⟨u332, _, rfl⟩ rfl (by decide) rfl (by omega) (by omega) (fun z34 h34 => ?_)
      refine xand 36 ⟨u332, _, rfl⟩ rfl ?_
      have e28 : z28.toInt = ((mN T t : Nat) : Int) := by rw [h28, show wt.toInt.toNat = t by omega]; exact Lt
      have e34 : z34.toInt = ((mN T p : Nat) : Int) := by rw [h34, show a.toInt.toNat = p by omega]; exact Lp
      have e35 := (i_and e28 e34 ml).1
      refine xif_ne 39 ⟨u332, _, rfl⟩ rfl (fun c36 => ?_) (fun c36 => ?_)
      · refine xcst 44 (0) ⟨u332, _, rfl⟩ rfl (by decide) (fun z43 h43 => ?_)
        refine xadd 45 _ ⟨u332, _, rfl⟩ rfl rfl (by omega) (by omega) (fun z44 h44 => ?_)
        refine xist 46 ⟨u332, _, rfl⟩ rfl rfl ?_
        refine xinc 49 (1) ⟨u332, _, rfl⟩ rfl rfl rfl (by decide) (by omega) (by omega) (fun z46 h46 => ?_)
        refine xgoto ⟨u332, _, rfl⟩ ?_
        exact ih (t + 1) _ _ (by omega) (by omega) (by show _ = ((apC T (mN T p) t + iv (mN T t &&& mN T p = 0) : Nat) : Int); rw [iv_f (p := mN T t &&& mN T p = 0) (by omega)]; omega)
      · refine xcst 40 (1) ⟨u332, _, rfl⟩ rfl (by decide) (fun z39 h39 => ?_)
        refine xgoto ⟨u332, _, rfl⟩ ?_
        refine xadd 45 _ ⟨u332, _, rfl⟩ rfl rfl (by omega) (by omega) (fun z44 h44 => ?_)
        refine xist 46 ⟨u332, _, rfl⟩ rfl rfl ?_
        refine xinc 49 (1) ⟨u332, _, rfl⟩ rfl rfl rfl (by decide) (by omega) (by omega) (fun z46 h46 => ?_)
        refine xgoto ⟨u332, _, rfl⟩ ?_
        exact ih (t + 1) _ _ (by omega) (by omega) (by show _ = ((apC T (mN T p) t + iv (mN T t &&& mN T p = 0) : Nat) : Int); rw [iv_t (p := mN T t &&& mN T p = 0) (by omega)]; omega)
theorem k_332E {d V n : Nat} {h : Nat → sR} {sv : Option sR} {T : sT} {ty : Nat → Int} {hp : amH} {R : xQ} {a : Int32} (hH : bHk 84 bTT hp) (hP : P0 hp) (hS : rfS hp (V, T, ty) n h sv)
    (hR : ∀ (z : Int32) hp1, bHk 84 bTT hp1 → P0 hp1 → bFr wM hp hp1 → rN hp1 66 7 = gTri (trL T 225).length a.toInt → ((¬ gTri (trL T 225).length a.toInt = 0 ∧ rfS hp1 (V, T, ty) n h sv) ∨ (gTri (trL T 225).length a.toInt = 0 ∧ rfS hp1 (V, T, ty) n h sv ∧ z.toInt = (((trL T 225).length : Nat) : Int) - ((mtC T (mN T a.toInt.toNat) 1 (trL T 225).length : Nat) : Int))) → R (.inl (some (.int z))) hp1) : xK (d + 3) 332 [.ref 66, .int a] hp R := by
  have hB : rdOk hp V T := rowOk_rd hS.1
  have b0 : rN hp 67 0 = (V : Int) := hB.1
  have hT0 : sOk V T := hB.2.1
  have h15 : V ≤ 15 := hT0.2.1
  have l35 : (trL T 225).length ≤ 35 := trL_35 hT0 225
  refine xin (M := am_m332) rfl rfl rfl ?_
  refine xald 1 ⟨u332, _, rfl⟩ rfl rfl ?_
  refine xild 2 ⟨u332, _, rfl⟩ rfl rfl ?_
  refine xcall 5 [.ref 66, .int _] [] hH ⟨u332, _, rfl⟩ rfl rfl rfl rfl rfl (k_gpt hH hB (fun z2 hp2 hH2 F2 B2 L2 t2 o2 => ⟨_, rfl, ?_⟩))
  have S2 := rfS_W hS F2 (fun _ => rfl) rfl rfl (fun _ => rfl) (fun _ => rfl)
  have P2 : P0 hp2 := P0_W (W := (66, 7) :: bLT) (by decide) F2 hP
  refine xif_eq 8 ⟨u332, _, rfl⟩ rfl (fun c5 => ?_) (fun c5 => ?_)
  · have g2 : gTri (trL T 225).length a.toInt = 0 := by omega
    have k2 := gTri_0.mp g2
    have q2 := apC_mt hT0 (m := mN T a.toInt.toNat) (trL T 225).length (Nat.le_refl _)
    refine xcst 11 (0) ⟨u332, _, rfl⟩ rfl (by decide) (fun z10 h10 => ?_)
    refine xist 12 ⟨u332, _, rfl⟩ rfl rfl ?_
    refine xcst 13 (0) ⟨u332, _, rfl⟩ rfl (by decide) (fun z12 h12 => ?_)
    refine xist 14 ⟨u332, _, rfl⟩ rfl rfl ?_
    exact l332E hH2 hT0 L2 (p := a.toInt.toNat) (by omega) (by omega) (fun z h => hR z hp2 hH2 P2 (bFr_sub F2 (by decide)) t2 (Or.inr ⟨g2, S2, by omega⟩)) (trL T 225).length 0 _ _ h12 (by omega) h10
  · refine xcst 9 (0) ⟨u332, _, rfl⟩ rfl (by decide) (fun z8 h8 => ?_)
    exact xret ⟨u332, _, rfl⟩ rfl (hR _ hp2 hH2 P2 (bFr_sub F2 (by decide)) t2 (Or.inl ⟨by omega, S2⟩))
theorem h378E {d : Nat} {hp : amH} {R : cQ} {x1 : Int32} {V n : Nat} {h : Nat → sR} {sv : Option sR} {T : sT} {ty : Nat → Int} (hI : lawI hp) (c : clS hp (V, T, ty) n h sv) (r : rfS hp (V, T, ty) n h sv)
    (hR : ∀ (z : Int32) hp1 mc ms, lawI hp1 → rfS hp1 (V, T, ty) n h sv → z.toInt = gTri (trL T 225).length x1.toInt → ((¬ gTri (trL T 225).length x1.toInt = 0 ∧ clS hp1 (V, T, ty) n h sv) ∨ (gTri (trL T 225).length x1.toInt = 0 ∧ clS hp1 (V, T, ty) n h sv ∧ rJ hp1 83 0 = (((trL T 225).length : Nat) : Int) - ((mtC T (mN T x1.toInt.toNat) 1 (trL T 225).length : Nat) : Int))) → mc ≤ 1 → ms ≤ 6 → R (.inl (some (.int z))) hp1 mc ms) : cK (d + 20) 378 [.ref 0, .int x1, .ref 83] hp R := by
  refine cin (M := am_m378) rfl rfl rfl ?_
  refine cald 1 ⟨u378J, _, rfl⟩ rfl rfl ?_
  refine ccst 2 (0) ⟨u378J, _, rfl⟩ rfl (by decide) (fun z1 h1 => ?_)
  refine cald 3 ⟨u378J, _, rfl⟩ rfl rfl ?_
  refine cild 4 ⟨u378J, _, rfl⟩ rfl rfl ?_
  refine ccall (kd := 0) (t := 1) [.ref 0, .int _] [.int _, .ref 83] hI.1 ⟨u378J, _, rfl⟩ (Or.inl ⟨_, rfl, rfl, by decide, by decide⟩) rfl rfl rfl ⟨rfl, rfl, rfl⟩ rfl (recv0 hI.1 _) rfl (qKE (Φ := fun z hp1 => bHk 84 bTT hp1 ∧ cF hp hp1 ∧ gTri (trL T 225).length x1.toInt = 0 ∧ clS hp1 (V, T, ty) n h sv ∧ z.toInt = (((trL T 225).length : Nat) : Int) - ((mtC T (mN T x1.toInt.toNat) 1 (trL T 225).length : Nat) : Int)) (Ψ := fun E hp1 => lawI hp1 ∧ rfS hp1 (V, T, ty) n h sv ∧ clS hp1 (V, T, ty) n h sv ∧ ¬ gTri (trL T 225).length x1.toInt = 0 ∧ ((gTri (trL T 225).length x1.toInt = 1 ∧ E = 1))) (fun R g1 g2 => k_165E (d := d + 16) hI.1 c (fun E hp1 b1 b2 b3 e1 e2 => g2 E hp1 ⟨law_cl hI b1 b2, cF_rf b2 r, b3, e1, e2⟩) (fun z hp1 a1 a2 a3 a4 a5 => g1 z hp1 ⟨a1, a2, a3, a4, a5⟩)) (fun z hp1 φ => Or.inl ⟨_, rfl, ?_⟩) (fun E hp1 ψ => Or.inr ?_))
  · refine ci2lE 8 ⟨u378J, _, rfl⟩ rfl (fun w hw => ?_)
    refine clastE 9 φ.1 ⟨u378J, _, rfl⟩ rfl h1 (fun hp2 hH2 F2 J2 => ?_)
    refine cgoto ⟨u378J, _, rfl⟩ ?_
    refine ccst 16 (0) ⟨u378J, _, rfl⟩ rfl (by decide) (fun z9 h9 => ?_)
    exact cret ⟨u378J, _, rfl⟩ (Or.inl rfl) (hR _ _ _ _ (lawI_83 (law_cl hI φ.1 φ.2.1) hH2 F2) (rf_83 F2 (cF_rf φ.2.1 r)) (by rw [φ.2.2.1]; exact h9) (Or.inr ⟨φ.2.2.1, cl_83 F2 φ.2.2.2.1, by rw [J2, hw]; exact φ.2.2.2.2⟩) (by decide) (by decide))
  · obtain ⟨ψ0, ψr, ψc, ψ1, ψ2⟩ := ψ
    obtain ⟨ce, rfl⟩ := ψ2
    refine ⟨1, 12, 3, 13, rfl, rfl, rfl, rfl, ?_⟩
    refine ccst 14 (1) ⟨u378J, _, rfl⟩ rfl (by decide) (fun z9 h9 => ?_)
    exact cret ⟨u378J, _, rfl⟩ (Or.inl rfl) (hR _ _ _ _ ψ0 ψr (by rw [ce]; exact h9) (Or.inl ⟨ψ1, ψc⟩) (by decide) (by decide))
