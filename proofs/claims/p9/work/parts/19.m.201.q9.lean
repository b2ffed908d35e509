/-! ===== triple on both sides ===== -/
def gTr (T : sT) (a b : Int) : Int := if gTri (trL T 225).length a = 0 then (if 0 ≤ b ∧ b ≤ 2 then 0 else 2) else 1
theorem gTr_0 {T : sT} {a b : Int} : gTr T a b = 0 ↔ gTri (trL T 225).length a = 0 ∧ 0 ≤ b ∧ b ≤ 2 := by
  unfold gTr
  split
  · next g => split <;> simp_all
  · next g => simp [g]
theorem gTr_1 {T : sT} {a b : Int} (h : ¬ gTri (trL T 225).length a = 0) : gTr T a b = 1 := by unfold gTr; rw [if_neg h]
theorem gTr_2 {T : sT} {a b : Int} (h : gTri (trL T 225).length a = 0) (h2 : ¬ (0 ≤ b ∧ b ≤ 2)) : gTr T a b = 2 := by unfold gTr; rw [if_pos h, if_neg h2]
theorem u120 : bUp 0 am_m120.1 = true := by decide +kernel
theorem k_120E {d V n : Nat} {h : Nat → sR} {sv : Option sR} {T : sT} {ty : Nat → Int} {hp : amH} {R : xQ} {a b : Int32} (hH : bHk 84 bTT hp) (hS : clS hp (V, T, ty) n h sv)
    (hT : ∀ E hp1, bHk 84 bTT hp1 → cF hp hp1 → clS hp1 (V, T, ty) n h sv → ¬ gTr T a.toInt b.toInt = 0 → ((gTr T a.toInt b.toInt = 1 ∧ E = 1) ∨ (gTr T a.toInt b.toInt = 2 ∧ E = 0)) → R (.inr E) hp1)
    (hR : ∀ (z : Int32) hp1, bHk 84 bTT hp1 → cF hp hp1 → gTr T a.toInt b.toInt = 0 → clS hp1 (V, T, ty) n h sv → z.toInt = memN (mN T a.toInt.toNat) b.toInt.toNat → R (.inl (some (.int z))) hp1) : xK (d + 4) 120 [.ref 0, .int a, .int b] hp R := by
  have hB : bdOk hp 3 V T := hS.1
  have b0 : rN hp 3 0 = (V : Int) := hB.1
  have hL : lsN hp 3 T 225 := hS.2.1
  have b1 : rN hp 3 1 = (((trL T 225).length : Nat) : Int) := hL.1
  have hT0 : sOk V T := hB.2.1
  have h15 : V ≤ 15 := hT0.2.1
  have l35 : (trL T 225).length ≤ 35 := trL_35 hT0 225
  have nq0 : rN hp 49 0 = ((nQ T : Nat) : Int) := hS.2.2.1.1
  refine xin (M := am_m120) rfl rfl rfl ?_
  refine xald 1 ⟨u120, _, rfl⟩ rfl rfl ?_
  refine xild 2 ⟨u120, _, rfl⟩ rfl rfl ?_
  refine xcallT 5 (o := 0) [.int _] [] hH ⟨u120, _, rfl⟩ rfl rfl (by decide) rfl (by decide) rfl ⟨rfl, rfl, rfl, rfl⟩ rfl (k_rqt hH b1 (fun g2 => Or.inl ⟨_, rfl, ?_⟩) (fun g2 => Or.inr ⟨_, rfl, rfl, hT _ hp hH cF.refl hS (by rw [gTr_1 (by omega)]; decide) (Or.inl ⟨gTr_1 (by omega), rfl⟩)⟩))
  have k2 := gTri_0.mp g2
  refine xild 6 ⟨u120, _, rfl⟩ rfl rfl ?_
  refine xif_lt 9 ⟨u120, _, rfl⟩ rfl (fun c6 => ?_) (fun c6 => ?_)
  · exact xthr ⟨u120, _, rfl⟩ (by decide) rfl (by decide) (hT _ hp hH cF.refl hS (by rw [gTr_2 g2 (by omega)]; decide) (Or.inr ⟨gTr_2 g2 (by omega), rfl⟩))
  · refine xild 10 ⟨u120, _, rfl⟩ rfl rfl ?_
    refine xcst 11 (2) ⟨u120, _, rfl⟩ rfl (by decide) (fun z10 h10 => ?_)
    refine xcmp_le 14 ⟨u120, _, rfl⟩ rfl (fun c11 => ?_) (fun c11 => ?_)
    · refine xald 25 ⟨u120, _, rfl⟩ rfl rfl ?_
      refine xgetD 28 (3) hH ⟨u120, _, rfl⟩ rfl (by decide) (by decide) rfl rfl (by decide) ?_
      refine xild 29 ⟨u120, _, rfl⟩ rfl rfl ?_
      refine xcallC 32 (o := 3) [.int _] [] hH ⟨u120, _, rfl⟩ rfl rfl (by decide) rfl (by decide) rfl ⟨rfl, rfl, rfl, rfl⟩ rfl (k_setL hH hL (t := a.toInt.toNat) (by omega) (by omega) (fun z29 h29 => ⟨_, rfl, ?_⟩))
      refine xild 33 ⟨u120, _, rfl⟩ rfl rfl ?_
      refine xcallS 36 [.int _, .int _] [] hH ⟨u120, _, rfl⟩ rfl rfl rfl rfl rfl (k_mem hH h29 (mN_lt hT0 (show a.toInt.toNat < (trL T 225).length by omega)).1 (i := b.toInt.toNat) (by omega) (fun z33 h33 => ⟨_, rfl, ?_⟩))
      exact xret ⟨u120, _, rfl⟩ rfl (hR _ _ hH cF.refl (gTr_0.mpr ⟨g2, by omega, by omega⟩) hS h33)
    · exact xthr ⟨u120, _, rfl⟩ (by decide) rfl (by decide) (hT _ hp hH cF.refl hS (by rw [gTr_2 g2 (by omega)]; decide) (Or.inr ⟨gTr_2 g2 (by omega), rfl⟩))
theorem u264 : bUp 0 am_m264.1 = true := by decide +kernel
theorem k_264E {d V n : Nat} {h : Nat → sR} {sv : Option sR} {T : sT} {ty : Nat → Int} {hp : amH} {R : xQ} {a b : Int32} (hH : bHk 84 bTT hp) (hP : P0 hp) (hS : rfS hp (V, T, ty) n h sv)
    (hR : ∀ (z : Int32) hp1, bHk 84 bTT hp1 → P0 hp1 → bFr wM hp hp1 → rN hp1 66 7 = gTr T a.toInt b.toInt → ((¬ gTr T a.toInt b.toInt = 0 ∧ rfS hp1 (V, T, ty) n h sv) ∨ (gTr T a.toInt b.toInt = 0 ∧ rfS hp1 (V, T, ty) n h sv ∧ z.toInt = memN (mN T a.toInt.toNat) b.toInt.toNat)) → R (.inl (some (.int z))) hp1) : xK (d + 4) 264 [.ref 66, .int a, .int b] hp R := by
  have hB : rdOk hp V T := rowOk_rd hS.1
  have b0 : rN hp 67 0 = (V : Int) := hB.1
  have hT0 : sOk V T := hB.2.1
  have h15 : V ≤ 15 := hT0.2.1
  have l35 : (trL T 225).length ≤ 35 := trL_35 hT0 225
  refine xin (M := am_m264) rfl rfl rfl ?_
  refine xald 1 ⟨u264, _, rfl⟩ rfl rfl ?_
  refine xild 2 ⟨u264, _, rfl⟩ rfl rfl ?_
  refine xcall 5 [.ref 66, .int _] [] hH ⟨u264, _, rfl⟩ rfl rfl rfl rfl rfl (k_gpt hH hB (fun z2 hp2 hH2 F2 B2 L2 t2 o2 => ⟨_, rfl, ?_⟩))
  have S2 := rfS_W hS F2 (fun _ => rfl) rfl rfl (fun _ => rfl) (fun _ => rfl)
  have P2 : P0 hp2 := P0_W (W := (66, 7) :: bLT) (by decide) F2 hP
  refine xif_ne 8 ⟨u264, _, rfl⟩ rfl (fun c5 => ?_) (fun c5 => ?_)
  · refine xcst 31 (0) ⟨u264, _, rfl⟩ rfl (by decide) (fun z30 h30 => ?_)
    exact xret ⟨u264, _, rfl⟩ rfl (hR _ hp2 hH2 P2 (bFr_sub F2 (by decide)) (by rw [t2, gTr_1 (by omega)]; omega) (Or.inl ⟨by rw [gTr_1 (by omega)]; decide, S2⟩))
  · have g2 : gTri (trL T 225).length a.toInt = 0 := by omega
    have k2 := gTri_0.mp g2
    refine xald 9 ⟨u264, _, rfl⟩ rfl rfl ?_
    refine xild 10 ⟨u264, _, rfl⟩ rfl rfl ?_
    refine xcst 11 (0) ⟨u264, _, rfl⟩ rfl (by decide) (fun z10 h10 => ?_)
    refine xcst 12 (2) ⟨u264, _, rfl⟩ rfl (by decide) (fun z11 h11 => ?_)
    refine xcallS 15 [.int _, .int _, .int _] [.ref 66] hH2 ⟨u264, _, rfl⟩ rfl rfl rfl rfl rfl (k_inr (fun z12 h12 => ⟨_, rfl, ?_⟩))
    refine xif_ne 18 ⟨u264, _, rfl⟩ rfl (fun c15 => ?_) (fun c15 => ?_)
    · refine xcst 23 (0) ⟨u264, _, rfl⟩ rfl (by decide) (fun z22 h22 => ?_)
      refine xcst 24 (2) ⟨u264, _, rfl⟩ rfl (by decide) (fun z23 h23 => ?_)
      refine xcall 27 [.ref 66, .int _, .int _] [] hH2 ⟨u264, _, rfl⟩ rfl rfl rfl rfl rfl (k_failsE hH2 (by omega) (fun hp24 hH24 V24 => ⟨_, rfl, ?_⟩))
      refine xif_eq 30 ⟨u264, _, rfl⟩ rfl (fun c27 => ?_) (fun c27 => ?_)
      · have hpe : hp2 = hp24 := by
          rcases V24 with ⟨q1, e⟩ | ⟨q1, -⟩
          · exact e.symm
          · omega
        subst hpe
        have g0 : gTr T a.toInt b.toInt = 0 := gTr_0.mpr ⟨g2, by omega, by omega⟩
        obtain ⟨r1, r2, r3⟩ := L2.2 a.toInt.toNat (by omega)
        obtain ⟨q1, q2, q3⟩ := trL_get 225 a.toInt.toNat (show a.toInt.toNat < (trL T 225).length by omega)
        obtain ⟨w, ew, x1, x2, x3⟩ := tr_pts hT0 q1
        have em : mN T a.toInt.toNat = m3 ((trL T 225).getD a.toInt.toNat 0 / 15) ((trL T 225).getD a.toInt.toNat 0 % 15) w := by unfold mN mk3; rw [ew, Int.toNat_natCast]
        obtain ⟨m0, m1, m2⟩ := mem3 x1 x2 (show w < 15 by omega)
        refine xild 33 ⟨u264, _, rfl⟩ rfl rfl ?_
        refine xif_ne 36 ⟨u264, _, rfl⟩ rfl (fun c33 => ?_) (fun c33 => ?_)
        · refine xild 46 ⟨u264, _, rfl⟩ rfl rfl ?_
          refine xcst 47 (1) ⟨u264, _, rfl⟩ rfl (by decide) (fun z46 h46 => ?_)
          refine xcmp_ne 50 ⟨u264, _, rfl⟩ rfl (fun c47 => ?_) (fun c47 => ?_)
          · refine xald 60 ⟨u264, _, rfl⟩ rfl rfl ?_
            refine xgetR 63 74 hH24 ⟨u264, _, rfl⟩ rfl rfl ?_
            refine xild 64 ⟨u264, _, rfl⟩ rfl rfl ?_
            refine xiald 65 (a).toInt.toNat hH24 ⟨u264, _, rfl⟩ rfl (by decide) rfl (by omega) (by omega) (fun z64 h64 => ?_)
            exact xret ⟨u264, _, rfl⟩ rfl (hR _ hp2 hH24 P2 (bFr_sub F2 (by decide)) (by rw [t2, g0]; exact g2) (Or.inr ⟨g0, S2, by rw [show b.toInt.toNat = 2 by omega, em, m2, h64]; exact r3.1.trans ew⟩))
          · refine xald 51 ⟨u264, _, rfl⟩ rfl rfl ?_
            refine xgetR 54 73 hH24 ⟨u264, _, rfl⟩ rfl rfl ?_
            refine xild 55 ⟨u264, _, rfl⟩ rfl rfl ?_
            refine xiald 56 (a).toInt.toNat hH24 ⟨u264, _, rfl⟩ rfl (by decide) rfl (by omega) (by omega) (fun z55 h55 => ?_)
            refine xgoto ⟨u264, _, rfl⟩ ?_
            exact xret ⟨u264, _, rfl⟩ rfl (hR _ hp2 hH24 P2 (bFr_sub F2 (by decide)) (by rw [t2, g0]; exact g2) (Or.inr ⟨g0, S2, by rw [show b.toInt.toNat = 1 by omega, em, m1, h55]; exact r2⟩))
        · refine xald 37 ⟨u264, _, rfl⟩ rfl rfl ?_
          refine xgetR 40 72 hH24 ⟨u264, _, rfl⟩ rfl rfl ?_
          refine xild 41 ⟨u264, _, rfl⟩ rfl rfl ?_
          refine xiald 42 (a).toInt.toNat hH24 ⟨u264, _, rfl⟩ rfl (by decide) rfl (by omega) (by omega) (fun z41 h41 => ?_)
          refine xgoto ⟨u264, _, rfl⟩ ?_
          exact xret ⟨u264, _, rfl⟩ rfl (hR _ hp2 hH24 P2 (bFr_sub F2 (by decide)) (by rw [t2, g0]; exact g2) (Or.inr ⟨g0, S2, by rw [show b.toInt.toNat = 0 by omega, em, m0, h41]; exact r1⟩))
      · rcases V24 with ⟨q1, -⟩ | ⟨q1, -⟩ <;> omega
    · refine xcst 19 (1) ⟨u264, _, rfl⟩ rfl (by decide) (fun z18 h18 => ?_)
      refine xgoto ⟨u264, _, rfl⟩ ?_
      refine xcst 24 (2) ⟨u264, _, rfl⟩ rfl (by decide) (fun z23 h23 => ?_)
      refine xcall 27 [.ref 66, .int _, .int _] [] hH2 ⟨u264, _, rfl⟩ rfl rfl rfl rfl rfl (k_failsE hH2 (by omega) (fun hp24 hH24 V24 => ⟨_, rfl, ?_⟩))
      refine xif_eq 30 ⟨u264, _, rfl⟩ rfl (fun c27 => ?_) (fun c27 => ?_)
      · rcases V24 with ⟨q1, -⟩ | ⟨q1, -⟩ <;> omega
      · refine xcst 31 (0) ⟨u264, _, rfl⟩ rfl (by decide) (fun z30 h30 => ?_)
        rcases V24 with ⟨q1, -⟩ | ⟨q1, U⟩
        · omega
        · have g1 := gTr_2 (T := T) g2 (show ¬ (0 ≤ b.toInt ∧ b.toInt ≤ 2) by omega)
          exact xret ⟨u264, _, rfl⟩ rfl (hR _ hp24 hH24 (P0_W (W := [(66, 7)]) (by decide) (rU_fr U rfl) P2) ((bFr_sub F2 (by decide)).trans (rU_fr U (by decide))) (by rw [U.1, g1]; omega) (Or.inl ⟨by rw [g1]; decide, rfS_W (W := [(66, 7)]) S2 (rU_fr U rfl) (fun _ => rfl) rfl rfl (fun _ => rfl) (fun _ => rfl)⟩))
theorem h349E {d : Nat} {hp : amH} {R : cQ} {x1 x2 : Int32} {V n : Nat} {h : Nat → sR} {sv : Option sR} {T : sT} {ty : Nat → Int} (hI : lawI hp) (c : clS hp (V, T, ty) n h sv) (r : rfS hp (V, T, ty) n h sv)
    (hR : ∀ (z : Int32) hp1 mc ms, lawI hp1 → rfS hp1 (V, T, ty) n h sv → z.toInt = gTr T x1.toInt x2.toInt → ((¬ gTr T x1.toInt x2.toInt = 0 ∧ clS hp1 (V, T, ty) n h sv) ∨ (gTr T x1.toInt x2.toInt = 0 ∧ clS hp1 (V, T, ty) n h sv ∧ rJ hp1 83 0 = memN (mN T x1.toInt.toNat) x2.toInt.toNat)) → mc ≤ 1 → ms ≤ 6 → R (.inl (some (.int z))) hp1 mc ms) : cK (d + 20) 349 [.ref 0, .int x1, .int x2, .ref 83] hp R := by
  refine cin (M := am_m349) rfl rfl rfl ?_
  refine cald 1 ⟨u349J, _, rfl⟩ rfl rfl ?_
  refine ccst 2 (0) ⟨u349J, _, rfl⟩ rfl (by decide) (fun z1 h1 => ?_)
  refine cald 3 ⟨u349J, _, rfl⟩ rfl rfl ?_
  refine cild 4 ⟨u349J, _, rfl⟩ rfl rfl ?_
  refine cild 5 ⟨u349J, _, rfl⟩ rfl rfl ?_
  refine ccall (kd := 0) (t := 2) [.ref 0, .int _, .int _] [.int _, .ref 83] hI.1 ⟨u349J, _, rfl⟩ (Or.inl ⟨_, rfl, rfl, by decide, by decide⟩) rfl rfl rfl ⟨rfl, rfl, rfl⟩ rfl (recv0 hI.1 _) rfl (qKE (Φ := fun z hp1 => bHk 84 bTT hp1 ∧ cF hp hp1 ∧ gTr T x1.toInt x2.toInt = 0 ∧ clS hp1 (V, T, ty) n h sv ∧ z.toInt = memN (mN T x1.toInt.toNat) x2.toInt.toNat) (Ψ := fun E hp1 => lawI hp1 ∧ rfS hp1 (V, T, ty) n h sv ∧ clS hp1 (V, T, ty) n h sv ∧ ¬ gTr T x1.toInt x2.toInt = 0 ∧ ((gTr T x1.toInt x2.toInt = 1 ∧ E = 1) ∨ (gTr T x1.toInt x2.toInt = 2 ∧ E = 0))) (fun R g1 g2 => k_120E (d := d + 15) hI.1 c (fun E hp1 b1 b2 b3 e1 e2 => g2 E hp1 ⟨law_cl hI b1 b2, cF_rf b2 r, b3, e1, e2⟩) (fun z hp1 a1 a2 a3 a4 a5 => g1 z hp1 ⟨a1, a2, a3, a4, a5⟩)) (fun z hp1 φ => Or.inl ⟨_, rfl, ?_⟩) (fun E hp1 ψ => Or.inr ?_))
  · refine ci2lE 9 ⟨u349J, _, rfl⟩ rfl (fun w hw => ?_)
    refine clastE 10 φ.1 ⟨u349J, _, rfl⟩ rfl h1 (fun hp2 hH2 F2 J2 => ?_)
    refine cgoto ⟨u349J, _, rfl⟩ ?_
    refine ccst 22 (0) ⟨u349J, _, rfl⟩ rfl (by decide) (fun z9 h9 => ?_)
    exact cret ⟨u349J, _, rfl⟩ (Or.inl rfl) (hR _ _ _ _ (lawI_83 (law_cl hI φ.1 φ.2.1) hH2 F2) (rf_83 F2 (cF_rf φ.2.1 r)) (by rw [φ.2.2.1]; exact h9) (Or.inr ⟨φ.2.2.1, cl_83 F2 φ.2.2.2.1, by rw [J2, hw]; exact φ.2.2.2.2⟩) (by decide) (by decide))
  · obtain ⟨ψ0, ψr, ψc, ψ1, ψ2⟩ := ψ
    rcases ψ2 with ⟨ce, rfl⟩ | ⟨ce, rfl⟩
    · refine ⟨1, 13, 4, 15, rfl, rfl, rfl, rfl, ?_⟩
      refine ccst 16 (1) ⟨u349J, _, rfl⟩ rfl (by decide) (fun z9 h9 => ?_)
      exact cret ⟨u349J, _, rfl⟩ (Or.inl rfl) (hR _ _ _ _ ψ0 ψr (by rw [ce]; exact h9) (Or.inl ⟨ψ1, ψc⟩) (by decide) (by decide))
    · refine ⟨0, 17, 4, 19, rfl, rfl, rfl, rfl, ?_⟩
      refine ccst 20 (2) ⟨u349J, _, rfl⟩ rfl (by decide) (fun z9 h9 => ?_)
      exact cret ⟨u349J, _, rfl⟩ (Or.inl rfl) (hR _ _ _ _ ψ0 ψr (by rw [ce]; exact h9) (Or.inl ⟨ψ1, ψc⟩) (by decide) (by decide))
