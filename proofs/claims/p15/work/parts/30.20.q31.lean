/-! ===== cyclePoint on both sides ===== -/
def gCp (V : Nat) (T : sT) (a b c e : Int) : Int := if gCy V T a b c = 0 then (if 0 ≤ e ∧ e < ((cyL T a.toNat b.toNat (cyX V T a b c) : Nat) : Int) then 0 else 3) else gCy V T a b c
theorem gCp_0 {V : Nat} {T : sT} {a b c e : Int} : gCp V T a b c e = 0 ↔ gCy V T a b c = 0 ∧ 0 ≤ e ∧ e < ((cyL T a.toNat b.toNat (cyX V T a b c) : Nat) : Int) := by
  unfold gCp
  by_cases g : gCy V T a b c = 0
  · rw [if_pos g]
    split
    · next h => exact ⟨fun _ => ⟨g, h⟩, fun _ => rfl⟩
    · next h => exact ⟨fun z => by omega, fun z => absurd z.2 h⟩
  · rw [if_neg g]
    exact ⟨fun z => absurd z g, fun z => z.1⟩
theorem gCp_1 {V : Nat} {T : sT} {a b c e : Int} (h : ¬ gCy V T a b c = 0) : gCp V T a b c e = gCy V T a b c := by unfold gCp; rw [if_neg h]
theorem gCp_3 {V : Nat} {T : sT} {a b c e : Int} (h : gCy V T a b c = 0) (h2 : ¬ (0 ≤ e ∧ e < ((cyL T a.toNat b.toNat (cyX V T a b c) : Nat) : Int))) : gCp V T a b c e = 3 := by unfold gCp; rw [if_pos h, if_neg h2]
theorem u142 : bUp 0 am_m142.1 = true := by decide +kernel
theorem k_142E {d V n : Nat} {h : Nat → sR} {sv : Option sR} {T : sT} {ty : Nat → Int} {hp : amH} {R : xQ} {a b c e : Int32} (hH : bHk 84 bTT hp) (hS : clS hp (V, T, ty) n h sv)
    (hT : ∀ E hp1, bHk 84 bTT hp1 → cF hp hp1 → clS hp1 (V, T, ty) n h sv → ¬ gCp V T a.toInt b.toInt c.toInt e.toInt = 0 → ((gCp V T a.toInt b.toInt c.toInt e.toInt = 1 ∧ E = 1) ∨ (gCp V T a.toInt b.toInt c.toInt e.toInt = 2 ∧ E = 0) ∨ (gCp V T a.toInt b.toInt c.toInt e.toInt = 3 ∧ E = 3)) → R (.inr E) hp1)
    (hR : ∀ (z : Int32) hp1, bHk 84 bTT hp1 → cF hp hp1 → gCp V T a.toInt b.toInt c.toInt e.toInt = 0 → clS hp1 (V, T, ty) n h sv → z.toInt = ((rk T a.toInt.toNat b.toInt.toNat (cyX V T a.toInt b.toInt c.toInt) e.toInt.toNat : Nat) : Int) → R (.inl (some (.int z))) hp1) : xK (d + 5) 142 [.ref 0, .int a, .int b, .int c, .int e] hp R := by
  have hB : bdOk hp 3 V T := hS.1
  have b0 : rN hp 3 0 = (V : Int) := hB.1
  have hL : lsN hp 3 T 225 := hS.2.1
  have b1 : rN hp 3 1 = (((trL T 225).length : Nat) : Int) := hL.1
  have hT0 : sOk V T := hB.2.1
  have h15 : V ≤ 15 := hT0.2.1
  have l35 : (trL T 225).length ≤ 35 := trL_35 hT0 225
  refine xin (M := am_m142) rfl rfl rfl ?_
  refine xald 1 ⟨u142, _, rfl⟩ rfl rfl ?_
  refine xild 2 ⟨u142, _, rfl⟩ rfl rfl ?_
  refine xild 3 ⟨u142, _, rfl⟩ rfl rfl ?_
  refine xild 4 ⟨u142, _, rfl⟩ rfl rfl ?_
  refine xcallT 7 (o := 0) [.int _, .int _, .int _] [] hH ⟨u142, _, rfl⟩ rfl rfl (by decide) rfl (by decide) rfl ⟨rfl, rfl, rfl, rfl⟩ rfl (k_rqC hH hS (fun E g2 e9 => Or.inr ⟨_, rfl, rfl, hT _ hp hH cF.refl hS (fun z => g2 (gCy_0.mp (gCp_0.mp z).1).1) (by
    have gn : ¬ gCy V T a.toInt b.toInt c.toInt = 0 := fun z => g2 (gCy_0.mp z).1
    have gc : gCy V T a.toInt b.toInt c.toInt = gTwo V a.toInt b.toInt := by unfold gCy; rw [if_neg g2]
    rw [gCp_1 gn, gc]
    rcases e9 with e9 | e9 | e9
    · exact Or.inl e9
    · exact Or.inr (Or.inl e9)
    · exfalso; have := gTwo_12 (V := V) (a := a.toInt) (b := b.toInt); omega)⟩) (fun hp4 hH4 F4 g2 g3 => Or.inr ⟨_, rfl, rfl, hT _ hp4 hH4 (cF_x F4 (by simp)) (clS_8 hS (fun c k hc => F4 c k (by simp; omega))) (fun z => g3 (gCy_0.mp (gCp_0.mp z).1).2) (Or.inr (Or.inr ⟨by rw [gCp_1 (fun z => g3 (gCy_0.mp z).2)]; unfold gCy; rw [if_pos g2, if_neg g3], rfl⟩))⟩) (fun hp4 hH4 F4 g2 g3 g4 C4 => Or.inl ⟨_, rfl, ?_⟩))
  have k2 := gTwo_0.mp g2
  have g0 : gCy V T a.toInt b.toInt c.toInt = 0 := gCy_0.mpr ⟨g2, g3, g4⟩
  obtain ⟨c1, c2, c3, c4, c5⟩ := C4
  have lq : c.toInt.toNat < (cyS T a.toInt.toNat b.toInt.toNat V).length := by omega
  obtain ⟨y1, -, y3⟩ := cy_15 (T := T) (n := V) hT0 (a := a.toInt.toNat) (b := b.toInt.toNat) (by omega) (by omega) (by omega) (Nat.le_refl V)
  have f1 := c4 c.toInt.toNat (by omega)
  have f2 := c4 (c.toInt.toNat + 1) (by omega)
  have f3 := offs_s (T := T) (a := a.toInt.toNat) (b := b.toInt.toNat) (L := cyS T a.toInt.toNat b.toInt.toNat V) (q := c.toInt.toNat)
  have f4 := y3 (c.toInt.toNat + 1) (by omega)
  have ex : cyX V T a.toInt b.toInt c.toInt = (cyS T a.toInt.toNat b.toInt.toNat V).getD c.toInt.toNat 0 := rfl
  have f5 := c5 c.toInt.toNat lq
  rw [← ex] at f3 f5
  have f6 := y3 c.toInt.toNat (by omega)
  refine xild2 9 ⟨u142, _, rfl⟩ rfl rfl ?_
  refine xif_lt 12 ⟨u142, _, rfl⟩ rfl (fun c9 => ?_) (fun c9 => ?_)
  · exact xthr ⟨u142, _, rfl⟩ (by decide) rfl (by decide) (hT _ hp4 hH4 (cF_x F4 (by simp)) (clS_8 hS (fun c k hc => F4 c k (by simp; omega))) (by rw [gCp_3 g0 (by omega)]; decide) (Or.inr (Or.inr ⟨gCp_3 g0 (by omega), rfl⟩)))
  · refine xild2 14 ⟨u142, _, rfl⟩ rfl rfl ?_
    refine xald 15 ⟨u142, _, rfl⟩ rfl rfl ?_
    refine xgetD 18 (52) hH4 ⟨u142, _, rfl⟩ rfl (by decide) (by decide) rfl rfl (by decide) ?_
    refine xild 19 ⟨u142, _, rfl⟩ rfl rfl ?_
    refine xcallC 22 (o := 52) [.int _] [.int _] hH4 ⟨u142, _, rfl⟩ rfl rfl (by decide) rfl (by decide) rfl ⟨rfl, rfl, rfl, rfl⟩ rfl (k_lngC hH4 (n := c.toInt.toNat) (by omega) (by omega) (by omega) (by omega) (by omega) (fun z19 h19 => ⟨_, rfl, ?_⟩))
    refine xcmp_lt 25 ⟨u142, _, rfl⟩ rfl (fun c22 => ?_) (fun c22 => ?_)
    · refine xald 36 ⟨u142, _, rfl⟩ rfl rfl ?_
      refine xgetD 39 (52) hH4 ⟨u142, _, rfl⟩ rfl (by decide) (by decide) rfl rfl (by decide) ?_
      refine xild 40 ⟨u142, _, rfl⟩ rfl rfl ?_
      refine xild2 42 ⟨u142, _, rfl⟩ rfl rfl ?_
      refine xcallC 45 (o := 52) [.int _, .int _] [] hH4 ⟨u142, _, rfl⟩ rfl rfl (by decide) rfl (by decide) rfl ⟨rfl, rfl, rfl, rfl⟩ rfl (k_ptC hH4 (n := c.toInt.toNat) (k := e.toInt.toNat) (by omega) (by omega) (by omega) (by omega) (by omega) (fun z42 h42 => ⟨_, rfl, ?_⟩))
      have f7 := (f5 e.toInt.toNat (by omega)).1
      exact xret ⟨u142, _, rfl⟩ rfl (hR _ hp4 hH4 (cF_x F4 (by simp)) (gCp_0.mpr ⟨g0, by omega, by omega⟩) (clS_8 hS (fun c k hc => F4 c k (by simp; omega))) (by rw [h42, ← f7]; congr 1; omega))
    · exact xthr ⟨u142, _, rfl⟩ (by decide) rfl (by decide) (hT _ hp4 hH4 (cF_x F4 (by simp)) (clS_8 hS (fun c k hc => F4 c k (by simp; omega))) (by rw [gCp_3 g0 (by omega)]; decide) (Or.inr (Or.inr ⟨gCp_3 g0 (by omega), rfl⟩)))
theorem u299 : bUp 0 am_m299.1 = true := by decide +kernel
theorem k_299E {d V n : Nat} {h : Nat → sR} {sv : Option sR} {T : sT} {ty : Nat → Int} {hp : amH} {R : xQ} {a b c e : Int32} (hH : bHk 84 bTT hp) (hP : P0 hp) (hS : rfS hp (V, T, ty) n h sv)
    (hR : ∀ (z : Int32) hp1, bHk 84 bTT hp1 → P0 hp1 → bFr wM hp hp1 → rN hp1 66 7 = gCp V T a.toInt b.toInt c.toInt e.toInt → ((¬ gCp V T a.toInt b.toInt c.toInt e.toInt = 0 ∧ rfS hp1 (V, T, ty) n h sv) ∨ (gCp V T a.toInt b.toInt c.toInt e.toInt = 0 ∧ rfS hp1 (V, T, ty) n h sv ∧ z.toInt = ((rk T a.toInt.toNat b.toInt.toNat (cyX V T a.toInt b.toInt c.toInt) e.toInt.toNat : Nat) : Int))) → R (.inl (some (.int z))) hp1) : xK (d + 5) 299 [.ref 66, .int a, .int b, .int c, .int e] hp R := by
  have hB : rdOk hp V T := rowOk_rd hS.1
  have b0 : rN hp 67 0 = (V : Int) := hB.1
  have hT0 : sOk V T := hB.2.1
  have h15 : V ≤ 15 := hT0.2.1
  have l35 : (trL T 225).length ≤ 35 := trL_35 hT0 225
  refine xin (M := am_m299) rfl rfl rfl ?_
  refine xald 1 ⟨u299, _, rfl⟩ rfl rfl ?_
  refine xild 2 ⟨u299, _, rfl⟩ rfl rfl ?_
  refine xild 3 ⟨u299, _, rfl⟩ rfl rfl ?_
  refine xild 4 ⟨u299, _, rfl⟩ rfl rfl ?_
  refine xcall 7 [.ref 66, .int _, .int _, .int _] [] hH ⟨u299, _, rfl⟩ rfl rfl rfl rfl rfl (k_259E hH hP (rowOk_rd hS.1) (fun z4 hp4 hH4 P4 F4 t4 o4 => ⟨_, rfl, ?_⟩))
  have S4 := rfS_W hS F4 (fun _ => rfl) rfl rfl (fun _ => rfl) (fun _ => rfl)
  refine xif_ne 10 ⟨u299, _, rfl⟩ rfl (fun c7 => ?_) (fun c7 => ?_)
  · refine xcst 39 (0) ⟨u299, _, rfl⟩ rfl (by decide) (fun z38 h38 => ?_)
    rcases o4 with ⟨-, q1, -⟩ | ⟨g1, -⟩
    · omega
    · exact xret ⟨u299, _, rfl⟩ rfl (hR _ hp4 hH4 P4 (bFr_sub F4 (by decide)) (by rw [t4, gCp_1 g1]) (Or.inl ⟨by rw [gCp_1 g1]; exact g1, S4⟩))
  · obtain ⟨g0, r1, r2⟩ : gCy V T a.toInt b.toInt c.toInt = 0 ∧ rN hp4 66 17 = ((cyL T a.toInt.toNat b.toInt.toNat (cyX V T a.toInt b.toInt c.toInt) : Nat) : Int) ∧ ∀ k, k < cyL T a.toInt.toNat b.toInt.toNat (cyX V T a.toInt b.toInt c.toInt) → rN hp4 78 k = ((rk T a.toInt.toNat b.toInt.toNat (cyX V T a.toInt b.toInt c.toInt) k : Nat) : Int) := by
      rcases o4 with ⟨g0, -, r1, r2⟩ | ⟨-, q1⟩
      · exact ⟨g0, r1, r2⟩
      · omega
    have k2 := gTwo_0.mp (gCy_0.mp g0).1
    have kq := (gCy_0.mp g0).2
    have l15 : cyL T a.toInt.toNat b.toInt.toNat (cyX V T a.toInt b.toInt c.toInt) ≤ 15 := by
      rcases Nat.eq_zero_or_pos (cyL T a.toInt.toNat b.toInt.toNat (cyX V T a.toInt b.toInt c.toInt)) with z | z
      · omega
      · exact (cyL_s hT0 z).1
    refine xald 11 ⟨u299, _, rfl⟩ rfl rfl ?_
    refine xild2 13 ⟨u299, _, rfl⟩ rfl rfl ?_
    refine xcst 14 (0) ⟨u299, _, rfl⟩ rfl (by decide) (fun z13 h13 => ?_)
    refine xald 15 ⟨u299, _, rfl⟩ rfl rfl ?_
    refine xgetI 18 hH4 ⟨u299, _, rfl⟩ rfl rfl (fun z15 h15 => ?_)
    refine xcst 19 (1) ⟨u299, _, rfl⟩ rfl (by decide) (fun z18 h18 => ?_)
    refine xsub 20 _ ⟨u299, _, rfl⟩ rfl rfl (by omega) (by omega) (fun z19 h19 => ?_)
    refine xcallS 23 [.int _, .int _, .int _] [.ref 66] hH4 ⟨u299, _, rfl⟩ rfl rfl rfl rfl rfl (k_inr (fun z20 h20 => ⟨_, rfl, ?_⟩))
    refine xif_ne 26 ⟨u299, _, rfl⟩ rfl (fun c23 => ?_) (fun c23 => ?_)
    · refine xcst 31 (0) ⟨u299, _, rfl⟩ rfl (by decide) (fun z30 h30 => ?_)
      refine xcst 32 (3) ⟨u299, _, rfl⟩ rfl (by decide) (fun z31 h31 => ?_)
      refine xcall 35 [.ref 66, .int _, .int _] [] hH4 ⟨u299, _, rfl⟩ rfl rfl rfl rfl rfl (k_failsE hH4 (by omega) (fun hp32 hH32 V32 => ⟨_, rfl, ?_⟩))
      refine xif_eq 38 ⟨u299, _, rfl⟩ rfl (fun c35 => ?_) (fun c35 => ?_)
      · have hpe : hp4 = hp32 := by
          rcases V32 with ⟨q1, e⟩ | ⟨q1, -⟩
          · exact e.symm
          · omega
        subst hpe
        have g9 : gCp V T a.toInt b.toInt c.toInt e.toInt = 0 := gCp_0.mpr ⟨g0, by omega, by omega⟩
        refine xald 41 ⟨u299, _, rfl⟩ rfl rfl ?_
        refine xgetR 44 78 hH32 ⟨u299, _, rfl⟩ rfl rfl ?_
        refine xild2 46 ⟨u299, _, rfl⟩ rfl rfl ?_
        refine xiald 47 (e).toInt.toNat hH32 ⟨u299, _, rfl⟩ rfl (by decide) rfl (by omega) (by omega) (fun z46 h46 => ?_)
        exact xret ⟨u299, _, rfl⟩ rfl (hR _ hp4 hH32 P4 (bFr_sub F4 (by decide)) (by rw [t4, g9]; exact g0) (Or.inr ⟨g9, S4, by rw [h46]; exact r2 _ (by omega)⟩))
      · rcases V32 with ⟨q1, -⟩ | ⟨q1, -⟩ <;> omega
    · refine xcst 27 (1) ⟨u299, _, rfl⟩ rfl (by decide) (fun z26 h26 => ?_)
      refine xgoto ⟨u299, _, rfl⟩ ?_
      refine xcst 32 (3) ⟨u299, _, rfl⟩ rfl (by decide) (fun z31 h31 => ?_)
      refine xcall 35 [.ref 66, .int _, .int _] [] hH4 ⟨u299, _, rfl⟩ rfl rfl rfl rfl rfl (k_failsE hH4 (by omega) (fun hp32 hH32 V32 => ⟨_, rfl, ?_⟩))
      refine xif_eq 38 ⟨u299, _, rfl⟩ rfl (fun c35 => ?_) (fun c35 => ?_)
      · rcases V32 with ⟨q1, -⟩ | ⟨q1, -⟩ <;> omega
      · refine xcst 39 (0) ⟨u299, _, rfl⟩ rfl (by decide) (fun z38 h38 => ?_)
        rcases V32 with ⟨q1, -⟩ | ⟨q1, U⟩
        · omega
        · have g1 := gCp_3 (e := e.toInt) g0 (by omega)
          exact xret ⟨u299, _, rfl⟩ rfl (hR _ hp32 hH32 (P0_W (W := [(66, 7)]) (by decide) (rU_fr U rfl) P4) ((bFr_sub F4 (by decide)).trans (rU_fr U (by decide))) (by rw [U.1, g1]; omega) (Or.inl ⟨by rw [g1]; decide, rfS_W (W := [(66, 7)]) S4 (rU_fr U rfl) (fun _ => rfl) rfl rfl (fun _ => rfl) (fun _ => rfl)⟩))
theorem h367E {d : Nat} {hp : amH} {R : cQ} {x1 x2 x3 x4 : Int32} {V n : Nat} {h : Nat → sR} {sv : Option sR} {T : sT} {ty : Nat → Int} (hI : lawI hp) (c : clS hp (V, T, ty) n h sv) (r : rfS hp (V, T, ty) n h sv)
    (hR : ∀ (z : Int32) hp1 mc ms, lawI hp1 → rfS hp1 (V, T, ty) n h sv → z.toInt = gCp V T x1.toInt x2.toInt x3.toInt x4.toInt → ((¬ gCp V T x1.toInt x2.toInt x3.toInt x4.toInt = 0 ∧ clS hp1 (V, T, ty) n h sv) ∨ (gCp V T x1.toInt x2.toInt x3.toInt x4.toInt = 0 ∧ clS hp1 (V, T, ty) n h sv ∧ rJ hp1 83 0 = ((rk T x1.toInt.toNat x2.toInt.toNat (cyX V T x1.toInt x2.toInt x3.toInt) x4.toInt.toNat : Nat) : Int))) → mc ≤ 1 → ms ≤ 6 → R (.inl (some (.int z))) hp1 mc ms) : cK (d + 20) 367 [.ref 0, .int x1, .int x2, .int x3, .int x4, .ref 83] hp R := by
  refine cin (M := am_m367) rfl rfl rfl ?_
  refine cald2 2 ⟨u367J, _, rfl⟩ rfl rfl ?_
  refine ccst 3 (0) ⟨u367J, _, rfl⟩ rfl (by decide) (fun z2 h2 => ?_)
  refine cald 4 ⟨u367J, _, rfl⟩ rfl rfl ?_
  refine cild 5 ⟨u367J, _, rfl⟩ rfl rfl ?_
  refine cild 6 ⟨u367J, _, rfl⟩ rfl rfl ?_
  refine cild 7 ⟨u367J, _, rfl⟩ rfl rfl ?_
  refine cild2 9 ⟨u367J, _, rfl⟩ rfl rfl ?_
  refine ccall (kd := 0) (t := 3) [.ref 0, .int _, .int _, .int _, .int _] [.int _, .ref 83] hI.1 ⟨u367J, _, rfl⟩ (Or.inl ⟨_, rfl, rfl, by decide, by decide⟩) rfl rfl rfl ⟨rfl, rfl, rfl⟩ rfl (recv0 hI.1 _) rfl (qKE (Φ := fun z hp1 => bHk 84 bTT hp1 ∧ cF hp hp1 ∧ gCp V T x1.toInt x2.toInt x3.toInt x4.toInt = 0 ∧ clS hp1 (V, T, ty) n h sv ∧ z.toInt = ((rk T x1.toInt.toNat x2.toInt.toNat (cyX V T x1.toInt x2.toInt x3.toInt) x4.toInt.toNat : Nat) : Int)) (Ψ := fun E hp1 => lawI hp1 ∧ rfS hp1 (V, T, ty) n h sv ∧ clS hp1 (V, T, ty) n h sv ∧ ¬ gCp V T x1.toInt x2.toInt x3.toInt x4.toInt = 0 ∧ ((gCp V T x1.toInt x2.toInt x3.toInt x4.toInt = 1 ∧ E = 1) ∨ (gCp V T x1.toInt x2.toInt x3.toInt x4.toInt = 2 ∧ E = 0) ∨ (gCp V T x1.toInt x2.toInt x3.toInt x4.toInt = 3 ∧ E = 3))) (fun R g1 g2 => k_142E (d := d + 14) hI.1 c (fun E hp1 b1 b2 b3 e1 e2 => g2 E hp1 ⟨law_cl hI b1 b2, cF_rf b2 r, b3, e1, e2⟩) (fun z hp1 a1 a2 a3 a4 a5 => g1 z hp1 ⟨a1, a2, a3, a4, a5⟩)) (fun z hp1 φ => Or.inl ⟨_, rfl, ?_⟩) (fun E hp1 ψ => Or.inr ?_))
  · refine ci2lE 13 ⟨u367J, _, rfl⟩ rfl (fun w hw => ?_)
    refine clastE 14 φ.1 ⟨u367J, _, rfl⟩ rfl h2 (fun hp2 hH2 F2 J2 => ?_)
    refine cgoto ⟨u367J, _, rfl⟩ ?_
    refine ccst 30 (0) ⟨u367J, _, rfl⟩ rfl (by decide) (fun z9 h9 => ?_)
    exact cret ⟨u367J, _, rfl⟩ (Or.inl rfl) (hR _ _ _ _ (lawI_83 (law_cl hI φ.1 φ.2.1) hH2 F2) (rf_83 F2 (cF_rf φ.2.1 r)) (by rw [φ.2.2.1]; exact h9) (Or.inr ⟨φ.2.2.1, cl_83 F2 φ.2.2.2.1, by rw [J2, hw]; exact φ.2.2.2.2⟩) (by decide) (by decide))
  · obtain ⟨ψ0, ψr, ψc, ψ1, ψ2⟩ := ψ
    rcases ψ2 with ⟨ce, rfl⟩ | ⟨ce, rfl⟩ | ⟨ce, rfl⟩
    · refine ⟨1, 17, 6, 19, rfl, rfl, rfl, rfl, ?_⟩
      refine ccst 20 (1) ⟨u367J, _, rfl⟩ rfl (by decide) (fun z9 h9 => ?_)
      exact cret ⟨u367J, _, rfl⟩ (Or.inl rfl) (hR _ _ _ _ ψ0 ψr (by rw [ce]; exact h9) (Or.inl ⟨ψ1, ψc⟩) (by decide) (by decide))
    · refine ⟨0, 21, 6, 23, rfl, rfl, rfl, rfl, ?_⟩
      refine ccst 24 (2) ⟨u367J, _, rfl⟩ rfl (by decide) (fun z9 h9 => ?_)
      exact cret ⟨u367J, _, rfl⟩ (Or.inl rfl) (hR _ _ _ _ ψ0 ψr (by rw [ce]; exact h9) (Or.inl ⟨ψ1, ψc⟩) (by decide) (by decide))
    · refine ⟨3, 25, 6, 27, rfl, rfl, rfl, rfl, ?_⟩
      refine ccst 28 (3) ⟨u367J, _, rfl⟩ rfl (by decide) (fun z9 h9 => ?_)
      exact cret ⟨u367J, _, rfl⟩ (Or.inl rfl) (hR _ _ _ _ ψ0 ψr (by rw [ce]; exact h9) (Or.inl ⟨ψ1, ψc⟩) (by decide) (by decide))
