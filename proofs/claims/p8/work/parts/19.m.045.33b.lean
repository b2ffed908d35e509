/-! ===== the reference: a triple added, removed ===== -/
def rfS (hp : amH) (q : sR) (n : Nat) (h : Nat → sR) (sv : Option sR) : Prop := rowOk (rN hp 67) q ∧ hyR hp n h sv
theorem rfS_W {W : List (Nat × Nat)} {hp hp1 : amH} {q : sR} {n : Nat} {h : Nat → sR} {sv : Option sR} (hS : rfS hp q n h sv) (F : bFr W hp hp1) (a : ∀ k, bIn W 67 k = false) (b : bIn W 66 5 = false) (c : bIn W 66 6 = false) (d : ∀ k, bIn W 70 k = false) (e : ∀ k, bIn W 71 k = false) : rfS hp1 q n h sv :=
  ⟨rowOk_eq hS.1 (fun i _ => r_fr F (a i)), hyR_fr hS.2 (r_fr F b) (r_fr F c) (fun i => r_fr F (d i)) (fun i => r_fr F (e i))⟩
/-- the system's row changed -/
theorem rfS_67 {hp hp1 : amH} {q q1 : sR} {n : Nat} {h : Nat → sR} {sv : Option sR} (hS : rfS hp q n h sv) (F : bFr [(67, 999)] hp hp1) (h1 : rowOk (rN hp1 67) q1) : rfS hp1 q1 n h sv :=
  ⟨h1, hyR_fr hS.2 (r_fr F rfl) (r_fr F rfl) (fun i => r_fr F rfl) (fun i => r_fr F rfl)⟩
theorem rfS_P {hp : amH} {q : sR} {n : Nat} {h : Nat → sR} {sv : Option sR} (hS : rfS hp q n h sv) (ha : 3 ≤ rN hp 69 0 → Vf (rN hp 69)) : P0 hp := by
  obtain ⟨h1, y1, y2, y3, y4⟩ := hS
  refine ⟨rowOk_V h1, fun z => ?_, fun k hk _ => rowOk_V (y3 k (by omega)), ha⟩
  cases sv with
  | none => have y4 : rN hp 66 6 = 0 := y4; omega
  | some q => exact rowOk_V y4.2
/-- the kept systems are one more -/
theorem k_rmS {d n : Nat} {h : Nat → sR} {sv : Option sR} {q : sR} {hp : amH} {R : xQ} (hH : bHk 84 bTT hp) (hP : P0 hp) (hS : rfS hp q n h sv) (hR : ∀ hp1, bHk 84 bTT hp1 → P0 hp1 → bFr wRem hp hp1 → rfS hp1 q (pM n + 1) (pH n h q) sv → R (.inl none) hp1) : xK (d + 1) 200 [.ref 66] hp R :=
  k_rmem hH hP hS.1 hS.2 (fun hp1 g1 g2 g3 g4 => hR hp1 g1 g2 g3 ⟨rowOk_eq hS.1 (fun i _ => r_fr g3 rfl), g4⟩)
/-- whether a triple can be added: 0, else what is thrown -/
def aCd (V : Nat) (T : sT) (a b c : Int) : Int := if ¬ gSet V a b c = 0 then gSet V a b c else if sFree T a.toNat b.toNat c.toNat then 0 else 3
theorem aCd_1 {V : Nat} {T : sT} {a b c : Int} (h : ¬ gSet V a b c = 0) : aCd V T a b c = gSet V a b c := by unfold aCd; rw [if_pos h]
theorem aCd_2 {V : Nat} {T : sT} {a b c : Int} (h : gSet V a b c = 0) (h2 : sFree T a.toNat b.toNat c.toNat) : aCd V T a b c = 0 := by unfold aCd; rw [if_neg (fun z => z h), if_pos h2]
theorem aCd_3 {V : Nat} {T : sT} {a b c : Int} (h : gSet V a b c = 0) (h2 : ¬ sFree T a.toNat b.toNat c.toNat) : aCd V T a b c = 3 := by unfold aCd; rw [if_neg (fun z => z h), if_neg h2]
theorem k_272E {d V n : Nat} {h : Nat → sR} {sv : Option sR} {T : sT} {ty : Nat → Int} {hp : amH} {R : xQ} {a b c : Int32} (hH : bHk 84 bTT hp) (hP : P0 hp) (hS : rfS hp (V, T, ty) n h sv)
    (hR : ∀ (z : Int32) hp1, bHk 84 bTT hp1 → P0 hp1 → bFr wM hp hp1 → rN hp1 66 7 = aCd V T a.toInt b.toInt c.toInt → ((¬ aCd V T a.toInt b.toInt c.toInt = 0 ∧ rfS hp1 (V, T, ty) n h sv) ∨ (aCd V T a.toInt b.toInt c.toInt = 0 ∧ rfS hp1 (V, sPut T a.toInt.toNat b.toInt.toNat c.toInt.toNat, ty) (pM n + 1) (pH n h (V, T, ty)) sv ∧ z.toInt = nmT (sPut T a.toInt.toNat b.toInt.toNat c.toInt.toNat) (m3 a.toInt.toNat b.toInt.toNat c.toInt.toNat))) → R (.inl (some (.int z))) hp1) : xK (d + 4) 272 [.ref 66, .int a, .int b, .int c] hp R := by
  have hV : V ≤ 15 := hS.1.2.1.2.1
  have hV0 : rN hp 67 0 = (V : Int) := hS.1.1
  refine xin (M := am_m272) rfl rfl rfl ?_
  refine xald 1 ⟨u272, _, rfl⟩ rfl rfl ?_
  refine xild 2 ⟨u272, _, rfl⟩ rfl rfl ?_
  refine xild 3 ⟨u272, _, rfl⟩ rfl rfl ?_
  refine xild 4 ⟨u272, _, rfl⟩ rfl rfl ?_
  refine xcall 7 [.ref 66, .int _, .int _, .int _] [] hH ⟨u272, _, rfl⟩ rfl rfl rfl rfl rfl (k_gp3 hH hV0 hV (fun z4 hp4 hH4 F4 t4 o4 => ⟨_, rfl, ?_⟩))
  have S4 := rfS_W hS F4 (fun _ => rfl) rfl rfl (fun _ => rfl) (fun _ => rfl)
  have P4 : P0 hp4 := P0_W (W := [(66, 7)]) (by decide) F4 hP
  refine xif_ne 10 ⟨u272, _, rfl⟩ rfl (fun c7 => ?_) (fun c7 => ?_)
  · refine xcst 34 (0) ⟨u272, _, rfl⟩ rfl (by decide) (fun z33 h33 => ?_)
    exact xret ⟨u272, _, rfl⟩ rfl (hR _ hp4 hH4 P4 (bFr_sub F4 (by decide)) (by rw [t4, aCd_1 (by omega)]) (Or.inl ⟨by rw [aCd_1 (by omega)]; omega, S4⟩))
  · have g4 : gSet V a.toInt b.toInt c.toInt = 0 := by omega
    have k4 := gSet_0.mp g4
    refine xald 11 ⟨u272, _, rfl⟩ rfl rfl ?_
    refine xald 12 ⟨u272, _, rfl⟩ rfl rfl ?_
    refine xild 13 ⟨u272, _, rfl⟩ rfl rfl ?_
    refine xild 14 ⟨u272, _, rfl⟩ rfl rfl ?_
    refine xild 15 ⟨u272, _, rfl⟩ rfl rfl ?_
    refine xcall 18 [.ref 66, .int _, .int _, .int _] [.ref 66] hH4 ⟨u272, _, rfl⟩ rfl rfl rfl rfl rfl (k_rrea hH4 (V := V) (T := T) (rowOk_rd S4.1) (x := a.toInt.toNat) (y := b.toInt.toNat) (z := c.toInt.toNat) (by omega) (by omega) (by omega) (by show _ < V; omega) (by show _ < V; omega) (by show _ < V; omega) (fun z15 h15 => ⟨_, rfl, ?_⟩))
    refine xif_eq 21 ⟨u272, _, rfl⟩ rfl (fun c18 => ?_) (fun c18 => ?_)
    · refine xcst 26 (0) ⟨u272, _, rfl⟩ rfl (by decide) (fun z25 h25 => ?_)
      refine xcst 27 (3) ⟨u272, _, rfl⟩ rfl (by decide) (fun z26 h26 => ?_)
      refine xcall 30 [.ref 66, .int _, .int _] [] hH4 ⟨u272, _, rfl⟩ rfl rfl rfl rfl rfl (k_failsE hH4 (by omega) (fun hp27 hH27 V27 => ⟨_, rfl, ?_⟩))
      refine xif_eq 33 ⟨u272, _, rfl⟩ rfl (fun c30 => ?_) (fun c30 => ?_)
      · have hpe : hp4 = hp27 := by
          rcases V27 with ⟨q1, e⟩ | ⟨q1, -⟩
          · exact e.symm
          · omega
        subst hpe
        have fr : sFree T a.toInt.toNat b.toInt.toNat c.toInt.toNat := rsn_0.mp (by omega)
        have cod : aCd V T a.toInt b.toInt c.toInt = 0 := aCd_2 g4 fr
        refine xald 36 ⟨u272, _, rfl⟩ rfl rfl ?_
        refine xcall 39 [.ref 66] [] hH27 ⟨u272, _, rfl⟩ rfl rfl rfl rfl rfl (k_rmS hH27 P4 S4 (fun hp36 hH36 P36 F36 S36 => ⟨_, rfl, ?_⟩))
        refine xald 40 ⟨u272, _, rfl⟩ rfl rfl ?_
        refine xild 41 ⟨u272, _, rfl⟩ rfl rfl ?_
        refine xild 42 ⟨u272, _, rfl⟩ rfl rfl ?_
        refine xild 43 ⟨u272, _, rfl⟩ rfl rfl ?_
        refine xcall 46 [.ref 66, .int _, .int _, .int _] [] hH36 ⟨u272, _, rfl⟩ rfl rfl rfl rfl rfl (k_ptR hH36 P36 S36.1 (x := a.toInt.toNat) (y := b.toInt.toNat) (z := c.toInt.toNat) (by omega) (by omega) (by omega) (by omega) (by omega) (by omega) (by omega) (by omega) (by omega) fr (fun hp43 hH43 P43 F43 C43 => ⟨_, rfl, ?_⟩))
        have S43 := rfS_67 S36 F43 C43
        refine xald 47 ⟨u272, _, rfl⟩ rfl rfl ?_
        refine xcall 50 [.ref 66] [] hH43 ⟨u272, _, rfl⟩ rfl rfl rfl rfl rfl (k_rlst hH43 (V := V) (T := sPut T a.toInt.toNat b.toInt.toNat c.toInt.toNat) (rowOk_rd S43.1) (fun hp47 hH47 F47 B47 L47 => ⟨_, rfl, ?_⟩))
        have S47 := rfS_W S43 F47 (fun _ => rfl) rfl rfl (fun _ => rfl) (fun _ => rfl)
        have P47 : P0 hp47 := P0_W (W := bLT) (by decide) F47 P43
        refine xald 51 ⟨u272, _, rfl⟩ rfl rfl ?_
        refine xcst 52 (1) ⟨u272, _, rfl⟩ rfl (by decide) (fun z51 h51 => ?_)
        refine xild 53 ⟨u272, _, rfl⟩ rfl rfl ?_
        refine xshl 54 ⟨u272, _, rfl⟩ rfl ?_
        refine xcst 55 (1) ⟨u272, _, rfl⟩ rfl (by decide) (fun z54 h54 => ?_)
        refine xild 56 ⟨u272, _, rfl⟩ rfl rfl ?_
        refine xshl 57 ⟨u272, _, rfl⟩ rfl ?_
        refine xor_ 58 ⟨u272, _, rfl⟩ rfl ?_
        refine xcst 59 (1) ⟨u272, _, rfl⟩ rfl (by decide) (fun z58 h58 => ?_)
        refine xild 60 ⟨u272, _, rfl⟩ rfl rfl ?_
        refine xshl 61 ⟨u272, _, rfl⟩ rfl ?_
        refine xor_ 62 ⟨u272, _, rfl⟩ rfl ?_
        have e1 := i_shl h51 (n := a.toInt.toNat) (c := a) (by omega) (by omega)
        have e2 := i_shl h54 (n := b.toInt.toNat) (c := b) (by omega) (by omega)
        have e3 := i_or e1.1 e2.1 e1.2 e2.2
        have e4 := i_shl h58 (n := c.toInt.toNat) (c := c) (by omega) (by omega)
        have e5 := i_or e3.1 e4.1 e3.2 e4.2
        refine xcall 65 [.ref 66, .int _] [] hH47 ⟨u272, _, rfl⟩ rfl rfl rfl rfl rfl (k_rnof hH47 B47 L47 (m := m3 a.toInt.toNat b.toInt.toNat c.toInt.toNat) e5.1 (fun z62 h62 => ⟨_, rfl, ?_⟩))
        exact xret ⟨u272, _, rfl⟩ rfl (hR _ hp47 hH47 P47 ((((bFr_sub F4 (by decide)).trans (bFr_sub F36 (by decide))).trans (bFr_sub F43 (by decide))).trans (bFr_sub F47 (by decide))) (by rw [cod, show rN hp47 66 7 = rN hp43 66 7 from r_fr F47 rfl, show rN hp43 66 7 = rN hp36 66 7 from r_fr F43 rfl, show rN hp36 66 7 = rN hp4 66 7 from r_fr F36 rfl, t4, g4]) (Or.inr ⟨cod, S47, h62⟩))
      · rcases V27 with ⟨q1, -⟩ | ⟨q1, -⟩ <;> omega
    · refine xcst 22 (1) ⟨u272, _, rfl⟩ rfl (by decide) (fun z21 h21 => ?_)
      refine xgoto ⟨u272, _, rfl⟩ ?_
      refine xcst 27 (3) ⟨u272, _, rfl⟩ rfl (by decide) (fun z26 h26 => ?_)
      refine xcall 30 [.ref 66, .int _, .int _] [] hH4 ⟨u272, _, rfl⟩ rfl rfl rfl rfl rfl (k_failsE hH4 (by omega) (fun hp27 hH27 V27 => ⟨_, rfl, ?_⟩))
      refine xif_eq 33 ⟨u272, _, rfl⟩ rfl (fun c30 => ?_) (fun c30 => ?_)
      · rcases V27 with ⟨q1, -⟩ | ⟨q1, -⟩ <;> omega
      · refine xcst 34 (0) ⟨u272, _, rfl⟩ rfl (by decide) (fun z33 h33 => ?_)
        rcases V27 with ⟨q1, -⟩ | ⟨q1, U⟩
        · omega
        · have nf : ¬ sFree T a.toInt.toNat b.toInt.toNat c.toInt.toNat := fun z => by have := rsn_0.mpr z; omega
          exact xret ⟨u272, _, rfl⟩ rfl (hR _ hp27 hH27 (P0_W (W := [(66, 7)]) (by decide) (rU_fr U rfl) P4) ((bFr_sub F4 (by decide)).trans (rU_fr U (by decide))) (by rw [U.1, aCd_3 g4 nf]; exact h26) (Or.inl ⟨by rw [aCd_3 g4 nf]; decide, rfS_W (W := [(66, 7)]) S4 (rU_fr U rfl) (fun _ => rfl) rfl rfl (fun _ => rfl) (fun _ => rfl)⟩))
