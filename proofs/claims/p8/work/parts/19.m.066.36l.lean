/-! ===== force: the reference ===== -/
theorem rmT_no {T : sT} {x y u v : Nat} (h : T u v = -1) : rmT T x y u v = -1 := by
  unfold rmT
  split
  · exact h
  · unfold sTake
    split
    · rfl
    · exact h
theorem rmT_at {V : Nat} {T : sT} (hT : sOk V T) {x y : Nat} (hxy : ¬ x = y) : rmT T x y x y = -1 := by
  unfold rmT
  by_cases h : T x y = -1
  · rw [if_pos h]; exact h
  · rw [if_neg h]
    unfold sTake
    rw [if_pos ⟨hxy, by simp, by simp⟩]
/-- the triples of the three pairs taken -/
def r3T (T : sT) (x y z : Nat) : sT := rmT (rmT (rmT T x y) y z) x z
theorem k_276E {d V n : Nat} {h : Nat → sR} {sv : Option sR} {T : sT} {ty : Nat → Int} {hp : amH} {R : xQ} {a b c : Int32} (hH : bHk 84 bTT hp) (hP : P0 hp) (hS : rfS hp (V, T, ty) n h sv)
    (hR : ∀ (z : Int32) hp1, bHk 84 bTT hp1 → P0 hp1 → bFr wM hp hp1 → rN hp1 66 7 = fCd V T a.toInt b.toInt c.toInt → ((¬ fCd V T a.toInt b.toInt c.toInt = 0 ∧ rfS hp1 (V, T, ty) n h sv) ∨ (fCd V T a.toInt b.toInt c.toInt = 0 ∧ rfS hp1 (V, sPut (r3T T a.toInt.toNat b.toInt.toNat c.toInt.toNat) a.toInt.toNat b.toInt.toNat c.toInt.toNat, ty) (pM n + 1) (pH n h (V, T, ty)) sv ∧ z.toInt + (((trL (r3T T a.toInt.toNat b.toInt.toNat c.toInt.toNat) 225).length : Nat) : Int) = (((trL T 225).length : Nat) : Int))) → R (.inl (some (.int z))) hp1) : xK (d + 4) 276 [.ref 66, .int a, .int b, .int c] hp R := by
  have hV : V ≤ 15 := hS.1.2.1.2.1
  have hV0 : rN hp 67 0 = (V : Int) := hS.1.1
  refine xin (M := am_m276) rfl rfl rfl ?_
  refine xald 1 ⟨u276, _, rfl⟩ rfl rfl ?_
  refine xild 2 ⟨u276, _, rfl⟩ rfl rfl ?_
  refine xild 3 ⟨u276, _, rfl⟩ rfl rfl ?_
  refine xild 4 ⟨u276, _, rfl⟩ rfl rfl ?_
  refine xcall 7 [.ref 66, .int _, .int _, .int _] [] hH ⟨u276, _, rfl⟩ rfl rfl rfl rfl rfl (k_gp3 hH hV0 hV (fun z4 hp4 hH4 F4 t4 o4 => ⟨_, rfl, ?_⟩))
  have S4 := rfS_W hS F4 (fun _ => rfl) rfl rfl (fun _ => rfl) (fun _ => rfl)
  have P4 : P0 hp4 := P0_W (W := [(66, 7)]) (by decide) F4 hP
  refine xif_ne 10 ⟨u276, _, rfl⟩ rfl (fun c7 => ?_) (fun c7 => ?_)
  · refine xcst 34 (0) ⟨u276, _, rfl⟩ rfl (by decide) (fun z33 h33 => ?_)
    exact xret ⟨u276, _, rfl⟩ rfl (hR _ hp4 hH4 P4 (bFr_sub F4 (by decide)) (by rw [t4, fCd_1 (by omega)]) (Or.inl ⟨by rw [fCd_1 (by omega)]; omega, S4⟩))
  · have g4 : gSet V a.toInt b.toInt c.toInt = 0 := by omega
    have k4 := gSet_0.mp g4
    refine xald 11 ⟨u276, _, rfl⟩ rfl rfl ?_
    refine xald 12 ⟨u276, _, rfl⟩ rfl rfl ?_
    refine xild 13 ⟨u276, _, rfl⟩ rfl rfl ?_
    refine xild 14 ⟨u276, _, rfl⟩ rfl rfl ?_
    refine xcall 17 [.ref 66, .int _, .int _] [.ref 66] hH4 ⟨u276, _, rfl⟩ rfl rfl rfl rfl rfl (k_third hH4 (by omega) (by omega) (by omega) (by omega) (fun z14 h14 => ⟨_, rfl, ?_⟩))
    rw [(rowOk_rd S4.1).2.2.1 a.toInt.toNat b.toInt.toNat (by omega) (by omega)] at h14
    have h14 : z14.toInt = T a.toInt.toNat b.toInt.toNat := h14
    refine xild 18 ⟨u276, _, rfl⟩ rfl rfl ?_
    refine xcmp_ne 21 ⟨u276, _, rfl⟩ rfl (fun c18 => ?_) (fun c18 => ?_)
    · refine xcst 26 (0) ⟨u276, _, rfl⟩ rfl (by decide) (fun z25 h25 => ?_)
      refine xcst 27 (3) ⟨u276, _, rfl⟩ rfl (by decide) (fun z26 h26 => ?_)
      refine xcall 30 [.ref 66, .int _, .int _] [] hH4 ⟨u276, _, rfl⟩ rfl rfl rfl rfl rfl (k_failsE hH4 (by omega) (fun hp27 hH27 V27 => ⟨_, rfl, ?_⟩))
      refine xif_eq 33 ⟨u276, _, rfl⟩ rfl (fun c30 => ?_) (fun c30 => ?_)
      · have hpe : hp4 = hp27 := by
          rcases V27 with ⟨q1, e⟩ | ⟨q1, -⟩
          · exact e.symm
          · omega
        subst hpe
        have nf : ¬ T a.toInt.toNat b.toInt.toNat = c.toInt := by omega
        refine xald 36 ⟨u276, _, rfl⟩ rfl rfl ?_
        refine xcall 39 [.ref 66] [] hH27 ⟨u276, _, rfl⟩ rfl rfl rfl rfl rfl (k_rmS hH27 P4 S4 (fun hp36 hH36 P36 F36 S36 => ⟨_, rfl, ?_⟩))
        refine xald 40 ⟨u276, _, rfl⟩ rfl rfl ?_
        refine xild 41 ⟨u276, _, rfl⟩ rfl rfl ?_
        refine xild 42 ⟨u276, _, rfl⟩ rfl rfl ?_
        refine xcall 45 [.ref 66, .int _, .int _] [] hH36 ⟨u276, _, rfl⟩ rfl rfl rfl rfl rfl (k_277E hH36 P36 S36 (x := a.toInt.toNat) (y := b.toInt.toNat) (by omega) (by omega) (by show _ < V; omega) (by show _ < V; omega) (fun z42 hp42 hH42 P42 F42 S42 e42 o42 => ⟨_, rfl, ?_⟩))
        have lr42 := len_rm (show sOk V _ from S36.1.2.1) (a.toInt.toNat) (b.toInt.toNat)
        dsimp only at lr42
        refine xald 46 ⟨u276, _, rfl⟩ rfl rfl ?_
        refine xild 47 ⟨u276, _, rfl⟩ rfl rfl ?_
        refine xild 48 ⟨u276, _, rfl⟩ rfl rfl ?_
        refine xcall 51 [.ref 66, .int _, .int _] [.int _] hH42 ⟨u276, _, rfl⟩ rfl rfl rfl rfl rfl (k_277E hH42 P42 S42 (x := b.toInt.toNat) (y := c.toInt.toNat) (by omega) (by omega) (by show _ < V; omega) (by show _ < V; omega) (fun z48 hp48 hH48 P48 F48 S48 e48 o48 => ⟨_, rfl, ?_⟩))
        have lr48 := len_rm (show sOk V _ from S42.1.2.1) (b.toInt.toNat) (c.toInt.toNat)
        dsimp only at lr48
        refine xadd 52 _ ⟨u276, _, rfl⟩ rfl rfl (by omega) (by omega) (fun z51 h51 => ?_)
        refine xald 53 ⟨u276, _, rfl⟩ rfl rfl ?_
        refine xild 54 ⟨u276, _, rfl⟩ rfl rfl ?_
        refine xild 55 ⟨u276, _, rfl⟩ rfl rfl ?_
        refine xcall 58 [.ref 66, .int _, .int _] [.int _] hH48 ⟨u276, _, rfl⟩ rfl rfl rfl rfl rfl (k_277E hH48 P48 S48 (x := a.toInt.toNat) (y := c.toInt.toNat) (by omega) (by omega) (by show _ < V; omega) (by show _ < V; omega) (fun z55 hp55 hH55 P55 F55 S55 e55 o55 => ⟨_, rfl, ?_⟩))
        have lr55 := len_rm (show sOk V _ from S48.1.2.1) (a.toInt.toNat) (c.toInt.toNat)
        dsimp only at lr55
        refine xadd 59 _ ⟨u276, _, rfl⟩ rfl rfl (by omega) (by omega) (fun z58 h58 => ?_)
        refine xist2 61 ⟨u276, _, rfl⟩ rfl rfl ?_
        refine xald 62 ⟨u276, _, rfl⟩ rfl rfl ?_
        refine xild 63 ⟨u276, _, rfl⟩ rfl rfl ?_
        refine xild 64 ⟨u276, _, rfl⟩ rfl rfl ?_
        refine xild 65 ⟨u276, _, rfl⟩ rfl rfl ?_
        refine xcall 68 [.ref 66, .int _, .int _, .int _] [] hH55 ⟨u276, _, rfl⟩ rfl rfl rfl rfl rfl (k_ptR hH55 P55 S55.1 (x := a.toInt.toNat) (y := b.toInt.toNat) (z := c.toInt.toNat) (by omega) (by omega) (by omega) (by show _ < V; omega) (by show _ < V; omega) (by show _ < V; omega) (by omega) (by omega) (by omega) ⟨rmT_no (rmT_no (rmT_at hS.1.2.1 (by omega))), rmT_no (rmT_at S42.1.2.1 (by omega)), rmT_at S48.1.2.1 (by omega)⟩ (fun hp65 hH65 P65 F65 C65 => ⟨_, rfl, ?_⟩))
        have S65 := rfS_67 S55 F65 C65
        refine xild2 70 ⟨u276, _, rfl⟩ rfl rfl ?_
        exact xret ⟨u276, _, rfl⟩ rfl (hR _ hp65 hH65 P65 ((((((bFr_sub F4 (by decide)).trans (bFr_sub F36 (by decide))).trans (bFr_sub F42 (by decide))).trans (bFr_sub F48 (by decide))).trans (bFr_sub F55 (by decide))).trans (bFr_sub F65 (by decide))) (by rw [fCd_2 g4 nf, show rN hp65 66 7 = rN hp55 66 7 from r_fr F65 rfl, show rN hp55 66 7 = rN hp48 66 7 from r_fr F55 rfl, show rN hp48 66 7 = rN hp42 66 7 from r_fr F48 rfl, show rN hp42 66 7 = rN hp36 66 7 from r_fr F42 rfl, show rN hp36 66 7 = rN hp4 66 7 from r_fr F36 rfl, t4, g4]) (Or.inr ⟨fCd_2 g4 nf, S65, by unfold r3T; omega⟩))
      · rcases V27 with ⟨q1, -⟩ | ⟨q1, -⟩ <;> omega
    · refine xcst 22 (1) ⟨u276, _, rfl⟩ rfl (by decide) (fun z21 h21 => ?_)
      refine xgoto ⟨u276, _, rfl⟩ ?_
      refine xcst 27 (3) ⟨u276, _, rfl⟩ rfl (by decide) (fun z26 h26 => ?_)
      refine xcall 30 [.ref 66, .int _, .int _] [] hH4 ⟨u276, _, rfl⟩ rfl rfl rfl rfl rfl (k_failsE hH4 (by omega) (fun hp27 hH27 V27 => ⟨_, rfl, ?_⟩))
      refine xif_eq 33 ⟨u276, _, rfl⟩ rfl (fun c30 => ?_) (fun c30 => ?_)
      · rcases V27 with ⟨q1, -⟩ | ⟨q1, -⟩ <;> omega
      · refine xcst 34 (0) ⟨u276, _, rfl⟩ rfl (by decide) (fun z33 h33 => ?_)
        rcases V27 with ⟨q1, -⟩ | ⟨q1, U⟩
        · omega
        · have fr : T a.toInt.toNat b.toInt.toNat = c.toInt := by omega
          exact xret ⟨u276, _, rfl⟩ rfl (hR _ hp27 hH27 (P0_W (W := [(66, 7)]) (by decide) (rU_fr U rfl) P4) ((bFr_sub F4 (by decide)).trans (rU_fr U (by decide))) (by rw [U.1, fCd_3 g4 fr]; exact h26) (Or.inl ⟨by rw [fCd_3 g4 fr]; decide, rfS_W (W := [(66, 7)]) S4 (rU_fr U rfl) (fun _ => rfl) rfl rfl (fun _ => rfl) (fun _ => rfl)⟩))
