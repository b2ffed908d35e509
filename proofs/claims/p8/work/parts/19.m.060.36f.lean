/-! ===== the reference develops ===== -/
theorem k_begE {d : Nat} {q : sR} {n : Nat} {h : Nat → sR} {sv : Option sR} {hp : amH} {R : xQ} (hH : bHk 84 bTT hp) (hP : P0 hp) (hS : rfS hp q n h sv) (hR : ∀ hp1, bHk 84 bTT hp1 → P0 hp1 → bFr [(69, 999)] hp hp1 → rfS hp1 q n h sv → rowOk (rN hp1 69) q → R (.inl none) hp1) : xK (d + 1) 201 [.ref 66] hp R := by
  refine xin (M := am_m201) rfl rfl rfl ?_
  refine xald 1 ⟨u201, _, rfl⟩ rfl rfl ?_
  refine xgetR 4 67 hH ⟨u201, _, rfl⟩ rfl rfl ?_
  refine xcst 5 (0) ⟨u201, _, rfl⟩ rfl (by decide) (fun z4 h4 => ?_)
  refine xald 6 ⟨u201, _, rfl⟩ rfl rfl ?_
  refine xgetR 9 69 hH ⟨u201, _, rfl⟩ rfl rfl ?_
  refine xcst 10 (0) ⟨u201, _, rfl⟩ rfl (by decide) (fun z9 h9 => ?_)
  refine xsip 13 (229) ⟨u201, _, rfl⟩ rfl (by decide) (fun z10 h10 => ?_)
  refine xcallS 16 [.ref 67, .int _, .ref 69, .int _, .int _] [] hH ⟨u201, _, rfl⟩ rfl rfl rfl rfl rfl (k_copy 0 0 229 hH (by decide) (by decide) (by decide) rfl rfl (by omega) (by omega) (by omega) (by omega) (by omega) (by decide) (fun hp13 hH13 F13 E13 => ⟨_, rfl, ?_⟩))
  have r69 : rowOk (rN hp13 69) q := rowOk_eq hS.1 (fun i hi => by rw [E13 i hi, if_pos (by omega), Nat.sub_zero, Nat.zero_add])
  exact xretV ⟨u201, _, rfl⟩ rfl (hR _ hH13 (P0_no hP F13 (fun z => absurd z (by decide)) (fun _ => rowOk_V r69) (fun z => absurd z (by decide)) (by decide) (by decide)) F13 (rfS_W hS F13 (fun _ => rfl) rfl rfl (fun _ => rfl) (fun _ => rfl)) r69)
theorem k_endE {d : Nat} {q q0 : sR} {n : Nat} {h : Nat → sR} {sv : Option sR} {hp : amH} {R : xQ} (hH : bHk 84 bTT hp) (hP : P0 hp) (hS : rfS hp q0 n h sv) (hA : rowOk (rN hp 69) q) (hR : ∀ hp1, bHk 84 bTT hp1 → P0 hp1 → bFr [(67, 999)] hp hp1 → rfS hp1 q n h sv → R (.inl none) hp1) : xK (d + 1) 202 [.ref 66] hp R := by
  refine xin (M := am_m202) rfl rfl rfl ?_
  refine xald 1 ⟨u202, _, rfl⟩ rfl rfl ?_
  refine xgetR 4 69 hH ⟨u202, _, rfl⟩ rfl rfl ?_
  refine xcst 5 (0) ⟨u202, _, rfl⟩ rfl (by decide) (fun z4 h4 => ?_)
  refine xald 6 ⟨u202, _, rfl⟩ rfl rfl ?_
  refine xgetR 9 67 hH ⟨u202, _, rfl⟩ rfl rfl ?_
  refine xcst 10 (0) ⟨u202, _, rfl⟩ rfl (by decide) (fun z9 h9 => ?_)
  refine xsip 13 (229) ⟨u202, _, rfl⟩ rfl (by decide) (fun z10 h10 => ?_)
  refine xcallS 16 [.ref 69, .int _, .ref 67, .int _, .int _] [] hH ⟨u202, _, rfl⟩ rfl rfl rfl rfl rfl (k_copy 0 0 229 hH (by decide) (by decide) (by decide) rfl rfl (by omega) (by omega) (by omega) (by omega) (by omega) (by decide) (fun hp13 hH13 F13 E13 => ⟨_, rfl, ?_⟩))
  have r67 : rowOk (rN hp13 67) q := rowOk_eq hA (fun i hi => by rw [E13 i hi, if_pos (by omega), Nat.sub_zero, Nat.zero_add])
  exact xretV ⟨u202, _, rfl⟩ rfl (hR _ hH13 (P0_67 F13 hP (rowOk_V r67)) F13 (rfS_67 hS F13 r67))
/-- a row that is a system, as one -/
theorem V_rowOk {r : Nat → Int} (h : Vf r) : ∃ q, rowOk r q := by
  obtain ⟨h1, h2, h3⟩ := h
  refine ⟨((r 0).toNat, fun u v => if u < 15 ∧ v < 15 then r (4 + 15 * u + v) else -1, fun i => r (i + 1)), by show r 0 = _; omega, ⟨by show 3 ≤ (r 0).toNat; omega, by show (r 0).toNat ≤ 15; omega, fun a b => ?_⟩, fun u v hu hv => by show _ = (if u < 15 ∧ v < 15 then r (4 + 15 * u + v) else -1); rw [if_pos ⟨hu, hv⟩], fun u v h => by show (if u < 15 ∧ v < 15 then r (4 + 15 * u + v) else -1) = -1; rw [if_neg h], fun i hi => rfl⟩
  show (if a < 15 ∧ b < 15 then r (4 + 15 * a + b) else -1) = -1 ∨ ∃ c : Nat, (if a < 15 ∧ b < 15 then r (4 + 15 * a + b) else -1) = (c : Int) ∧ a < (r 0).toNat ∧ b < (r 0).toNat ∧ c < (r 0).toNat ∧ a ≠ b ∧ a ≠ c ∧ b ≠ c ∧ (if b < 15 ∧ a < 15 then r (4 + 15 * b + a) else -1) = (c : Int) ∧ (if a < 15 ∧ c < 15 then r (4 + 15 * a + c) else -1) = (b : Int)
  by_cases g : a < 15 ∧ b < 15
  · rw [if_pos g]
    rcases h3 a b g.1 g.2 with k | ⟨c, k1, k2, k3, k4, k5, k6, k7, k8, k9⟩
    · exact Or.inl k
    · exact Or.inr ⟨c, k1, by omega, by omega, by omega, k5, k6, k7, by rw [if_pos ⟨g.2, g.1⟩]; exact k8, by rw [if_pos ⟨g.1, by omega⟩]; exact k9⟩
  · rw [if_neg g]
    exact Or.inl rfl
theorem rfS_ex {hp hp1 : amH} {q : sR} {n : Nat} {h : Nat → sR} {sv : Option sR} (hS : rfS hp q n h sv) (F : bFr [(67, 999)] hp hp1) (h1 : Vf (rN hp1 67)) : ∃ q0, rfS hp1 q0 n h sv := by
  obtain ⟨q0, e⟩ := V_rowOk h1
  exact ⟨q0, rfS_67 hS F e⟩
/-- develops, on the state -/
theorem k_dvS {d V n : Nat} {h : Nat → sR} {sv : Option sR} {T : sT} {ty : Nat → Int} {hp : amH} {R : xQ} {a b c : Int32} (hH : bHk 84 bTT hp) (hP : P0 hp) (hS : rfS hp (V, T, ty) n h sv) (g : gSet V a.toInt b.toInt c.toInt = 0)
    (hR : ∀ (r : Int32) hp1, bHk 84 bTT hp1 → P0 hp1 → bFr [(67, 999)] hp hp1 → (∃ q0, rfS hp1 q0 n h sv) → (match sDv V a.toInt.toNat b.toInt.toNat c.toInt.toNat V 0 T 0 with
      | none => r.toInt = -1
      | some q => r.toInt = (q.2 : Int) ∧ rfS hp1 (V, q.1, ty) n h sv) → R (.inl (some (.int r))) hp1) : xK (d + 4) 237 [.ref 66, .int a, .int b, .int c] hp R := by
  have k := gSet_0.mp g
  refine k_rdvs hH hP (rowOk_rd hS.1) (a := a.toInt.toNat) (b := b.toInt.toNat) (c := c.toInt.toNat) (by omega) (by omega) (by omega) (by show _ < V; omega) (by show _ < V; omega) (by show _ < V; omega) (by omega) (by omega) (by omega) (fun r hp1 g1 g2 g3 g4 g5 => hR r hp1 g1 g2 g3 ?_ ?_)
  · obtain ⟨v1, v2, v3⟩ := g2.1
    exact rfS_ex hS g3 ⟨v1, v2, v3⟩
  · have g5 : (match sDv V a.toInt.toNat b.toInt.toNat c.toInt.toNat V 0 T 0 with
      | none => r.toInt = -1
      | some q => r.toInt = (q.2 : Int) ∧ rdOk hp1 V q.1) := g5
    cases e : sDv V a.toInt.toNat b.toInt.toNat c.toInt.toNat V 0 T 0 with
    | none => rw [e] at g5; exact g5
    | some q => rw [e] at g5; exact ⟨g5.1, rfS_67 hS g3 (rd_rowOk g5.2 (fun i hi => (g4 (i + 1) (by omega)).trans (hS.1.2.2.2.2 i hi)))⟩
theorem k_274E {d V n : Nat} {h : Nat → sR} {sv : Option sR} {T : sT} {ty : Nat → Int} {hp : amH} {R : xQ} {a b c : Int32} (hH : bHk 84 bTT hp) (hP : P0 hp) (hS : rfS hp (V, T, ty) n h sv)
    (hR : ∀ (z : Int32) hp1, bHk 84 bTT hp1 → P0 hp1 → bFr wM hp hp1 → rN hp1 66 7 = dCd V T a.toInt b.toInt c.toInt → ((¬ dCd V T a.toInt b.toInt c.toInt = 0 ∧ rfS hp1 (V, T, ty) n h sv) ∨ (∃ q, dCd V T a.toInt b.toInt c.toInt = 0 ∧ sDv V a.toInt.toNat b.toInt.toNat c.toInt.toNat V 0 T 0 = some q ∧ rfS hp1 (V, q.1, ty) (pM n + 1) (pH n h (V, T, ty)) sv ∧ z.toInt = (q.2 : Int))) → R (.inl (some (.int z))) hp1) : xK (d + 5) 274 [.ref 66, .int a, .int b, .int c] hp R := by
  have hV : V ≤ 15 := hS.1.2.1.2.1
  have hV0 : rN hp 67 0 = (V : Int) := hS.1.1
  refine xin (M := am_m274) rfl rfl rfl ?_
  refine xald 1 ⟨u274, _, rfl⟩ rfl rfl ?_
  refine xild 2 ⟨u274, _, rfl⟩ rfl rfl ?_
  refine xild 3 ⟨u274, _, rfl⟩ rfl rfl ?_
  refine xild 4 ⟨u274, _, rfl⟩ rfl rfl ?_
  refine xcall 7 [.ref 66, .int _, .int _, .int _] [] hH ⟨u274, _, rfl⟩ rfl rfl rfl rfl rfl (k_gp3 hH hV0 hV (fun z4 hp4 hH4 F4 t4 o4 => ⟨_, rfl, ?_⟩))
  have S4 := rfS_W hS F4 (fun _ => rfl) rfl rfl (fun _ => rfl) (fun _ => rfl)
  have P4 : P0 hp4 := P0_W (W := [(66, 7)]) (by decide) F4 hP
  refine xif_eq 10 ⟨u274, _, rfl⟩ rfl (fun c7 => ?_) (fun c7 => ?_)
  · have g4 : gSet V a.toInt b.toInt c.toInt = 0 := by omega
    refine xald 13 ⟨u274, _, rfl⟩ rfl rfl ?_
    refine xcall 16 [.ref 66] [] hH4 ⟨u274, _, rfl⟩ rfl rfl rfl rfl rfl (k_begE hH4 P4 S4 (fun hp13 hH13 P13 F13 S13 A13 => ⟨_, rfl, ?_⟩))
    refine xald 17 ⟨u274, _, rfl⟩ rfl rfl ?_
    refine xild 18 ⟨u274, _, rfl⟩ rfl rfl ?_
    refine xild 19 ⟨u274, _, rfl⟩ rfl rfl ?_
    refine xild 20 ⟨u274, _, rfl⟩ rfl rfl ?_
    refine xcall 23 [.ref 66, .int _, .int _, .int _] [] hH13 ⟨u274, _, rfl⟩ rfl rfl rfl rfl rfl (k_dvS hH13 P13 S13 g4 (fun z20 hp20 hH20 P20 F20 X20 V20 => ⟨_, rfl, ?_⟩))
    obtain ⟨q0, S20⟩ := X20
    refine xist2 25 ⟨u274, _, rfl⟩ rfl rfl ?_
    refine xald 26 ⟨u274, _, rfl⟩ rfl rfl ?_
    refine xcall 29 [.ref 66] [] hH20 ⟨u274, _, rfl⟩ rfl rfl rfl rfl rfl (k_endE hH20 P20 S20 (rowOk_eq A13 (fun i _ => r_fr F20 rfl)) (fun hp26 hH26 P26 F26 S26 => ⟨_, rfl, ?_⟩))
    have e7 : rN hp26 66 7 = 0 := by rw [show rN hp26 66 7 = rN hp20 66 7 from r_fr F26 rfl, show rN hp20 66 7 = rN hp13 66 7 from r_fr F20 rfl, show rN hp13 66 7 = rN hp4 66 7 from r_fr F13 rfl, t4, g4]
    have W26 : bFr wM hp hp26 := (((bFr_sub F4 (by decide)).trans (bFr_sub F13 (by decide))).trans (bFr_sub F20 (by decide))).trans (bFr_sub F26 (by decide))
    refine xald 30 ⟨u274, _, rfl⟩ rfl rfl ?_
    refine xild2 32 ⟨u274, _, rfl⟩ rfl rfl ?_
    refine xcst 33 (-1) ⟨u274, _, rfl⟩ rfl (by decide) (fun z32 h32 => ?_)
    refine xcmp_ne 36 ⟨u274, _, rfl⟩ rfl (fun c33 => ?_) (fun c33 => ?_)
    · refine xcst 41 (0) ⟨u274, _, rfl⟩ rfl (by decide) (fun z40 h40 => ?_)
      refine xcst 42 (3) ⟨u274, _, rfl⟩ rfl (by decide) (fun z41 h41 => ?_)
      refine xcall 45 [.ref 66, .int _, .int _] [] hH26 ⟨u274, _, rfl⟩ rfl rfl rfl rfl rfl (k_failsE hH26 (by omega) (fun hp42 hH42 V42 => ⟨_, rfl, ?_⟩))
      refine xif_eq 48 ⟨u274, _, rfl⟩ rfl (fun c45 => ?_) (fun c45 => ?_)
      · obtain ⟨q, ds⟩ : ∃ q, sDv V a.toInt.toNat b.toInt.toNat c.toInt.toNat V 0 T 0 = some q := by
          cases e : sDv V a.toInt.toNat b.toInt.toNat c.toInt.toNat V 0 T 0 with
          | none => rw [e] at V20; have V20 : Int32.toInt z20 = -1 := V20; omega
          | some q => exact ⟨q, rfl⟩
        have hpe : hp26 = hp42 := by
          rcases V42 with ⟨q1, e⟩ | ⟨q1, -⟩
          · exact e.symm
          · omega
        subst hpe
        refine xald 51 ⟨u274, _, rfl⟩ rfl rfl ?_
        refine xcall 54 [.ref 66] [] hH42 ⟨u274, _, rfl⟩ rfl rfl rfl rfl rfl (k_rmS hH42 P26 S26 (fun hp51 hH51 P51 F51 S51 => ⟨_, rfl, ?_⟩))
        refine xald 55 ⟨u274, _, rfl⟩ rfl rfl ?_
        refine xild 56 ⟨u274, _, rfl⟩ rfl rfl ?_
        refine xild 57 ⟨u274, _, rfl⟩ rfl rfl ?_
        refine xild 58 ⟨u274, _, rfl⟩ rfl rfl ?_
        refine xcall 61 [.ref 66, .int _, .int _, .int _] [] hH51 ⟨u274, _, rfl⟩ rfl rfl rfl rfl rfl (k_dvS hH51 P51 S51 g4 (fun z58 hp58 hH58 P58 F58 X58 V58 => ⟨_, rfl, ?_⟩))
        rw [ds] at V58
        have V58 : z58.toInt = (q.2 : Int) ∧ rfS hp58 (V, q.1, ty) (pM n + 1) (pH n h (V, T, ty)) sv := V58
        exact xret ⟨u274, _, rfl⟩ rfl (hR _ hp58 hH58 P58 ((W26.trans (bFr_sub F51 (by decide))).trans (bFr_sub F58 (by decide))) (by rw [dCd_2 g4 ds, show rN hp58 66 7 = rN hp51 66 7 from r_fr F58 rfl, show rN hp51 66 7 = rN hp26 66 7 from r_fr F51 rfl]; exact e7) (Or.inr ⟨q, dCd_2 g4 ds, ds, V58.2, V58.1⟩))
      · rcases V42 with ⟨q1, -⟩ | ⟨q1, -⟩ <;> omega
    · refine xcst 37 (1) ⟨u274, _, rfl⟩ rfl (by decide) (fun z36 h36 => ?_)
      refine xgoto ⟨u274, _, rfl⟩ ?_
      refine xcst 42 (3) ⟨u274, _, rfl⟩ rfl (by decide) (fun z41 h41 => ?_)
      refine xcall 45 [.ref 66, .int _, .int _] [] hH26 ⟨u274, _, rfl⟩ rfl rfl rfl rfl rfl (k_failsE hH26 (by omega) (fun hp42 hH42 V42 => ⟨_, rfl, ?_⟩))
      refine xif_eq 48 ⟨u274, _, rfl⟩ rfl (fun c45 => ?_) (fun c45 => ?_)
      · rcases V42 with ⟨q1, -⟩ | ⟨q1, -⟩ <;> omega
      · refine xcst 49 (0) ⟨u274, _, rfl⟩ rfl (by decide) (fun z48 h48 => ?_)
        have dn : sDv V a.toInt.toNat b.toInt.toNat c.toInt.toNat V 0 T 0 = none := by
          cases e : sDv V a.toInt.toNat b.toInt.toNat c.toInt.toNat V 0 T 0 with
          | none => rfl
          | some q => rw [e] at V20; have := V20.1; omega
        rcases V42 with ⟨q1, -⟩ | ⟨q1, U⟩
        · omega
        · exact xret ⟨u274, _, rfl⟩ rfl (hR _ hp42 hH42 (P0_W (W := [(66, 7)]) (by decide) (rU_fr U rfl) P26) (W26.trans (rU_fr U (by decide))) (by rw [U.1, dCd_3 g4 dn]; exact h41) (Or.inl ⟨by rw [dCd_3 g4 dn]; decide, rfS_W (W := [(66, 7)]) S26 (rU_fr U rfl) (fun _ => rfl) rfl rfl (fun _ => rfl) (fun _ => rfl)⟩))
  · refine xcst 11 (0) ⟨u274, _, rfl⟩ rfl (by decide) (fun z10 h10 => ?_)
    exact xret ⟨u274, _, rfl⟩ rfl (hR _ hp4 hH4 P4 (bFr_sub F4 (by decide)) (by rw [t4, dCd_1 (by omega)]) (Or.inl ⟨by rw [dCd_1 (by omega)]; omega, S4⟩))
