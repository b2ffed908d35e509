/-! ===== the reference: triples put and taken, states saved and restored ===== -/
theorem k_ptR {d V x y z : Nat} {hp : amH} {R : xQ} {T : sT} {ty : Nat → Int} {a b c : Int32} (hH : bHk 84 bTT hp) (hP : P0 hp) (hC : rowOk (rN hp 67) (V, T, ty)) (ha : a.toInt = (x : Int)) (hb : b.toInt = (y : Int)) (hc : c.toInt = (z : Int)) (hx : x < V) (hy : y < V) (hz : z < V) (hxy : ¬ x = y) (hyz : ¬ y = z) (hxz : ¬ x = z) (hf : sFree T x y z)
    (hR : ∀ hp1, bHk 84 bTT hp1 → P0 hp1 → bFr [(67, 999)] hp hp1 → rowOk (rN hp1 67) (V, sPut T x y z, ty) → R (.inl none) hp1) : xK (d + 1) 206 [.ref 66, .int a, .int b, .int c] hp R :=
  k_rput hH hP (rowOk_rd hC) ha hb hc hx hy hz hxy hyz hxz hf (fun hp1 g1 g2 g3 g4 g5 => hR hp1 g1 g2 g3 (rd_rowOk g5 (fun i hi => (g4 (i + 1) (by omega)).trans (hC.2.2.2.2 i hi))))
theorem k_tkR {d V x y z : Nat} {hp : amH} {R : xQ} {T : sT} {ty : Nat → Int} {a b c : Int32} (hH : bHk 84 bTT hp) (hP : P0 hp) (hC : rowOk (rN hp 67) (V, T, ty)) (ha : a.toInt = (x : Int)) (hb : b.toInt = (y : Int)) (hc : c.toInt = (z : Int)) (e : T x y = (z : Int))
    (hR : ∀ hp1, bHk 84 bTT hp1 → P0 hp1 → bFr [(67, 999)] hp hp1 → rowOk (rN hp1 67) (V, sTake T x y z, ty) → R (.inl none) hp1) : xK (d + 1) 207 [.ref 66, .int a, .int b, .int c] hp R := by
  obtain ⟨c1, c2, c3, c4, c5⟩ := id hC
  have hV := c2.2.1
  obtain ⟨k, ek, k1, k2, k3, k4, k5, k6, -⟩ := sOk_at c2 e (by omega)
  have : k = z := by omega
  subst this
  have k1 : x < V := k1
  have k2 : y < V := k2
  have k3 : k < V := k3
  have hV : V ≤ 15 := hV
  refine k_takes hH ha hb hc (by omega) (by omega) (by omega) k4 k6 k5 (fun hp1 g1 g2 g3 g4 => ?_)
  have hC1 : rowOk (rN hp1 67) (V, sTake T x y k, ty) := ⟨(g3 0 (by omega)).trans c1, sOk_take c2 e, fun u v hu hv => by
    have g := g4 u v hu hv
    have g0 : tT hp1 u v = sTake T x y k u v := by
      rw [g]
      unfold sTake
      by_cases hp : sPr x y k u v
      · rw [if_pos hp, if_pos hp]
      · rw [if_neg hp, if_neg hp]
        exact c3 u v hu hv
    exact g0, fun u v h => by
    show sTake T x y k u v = -1
    unfold sTake
    split
    · rfl
    · exact c4 u v h, fun i hi => (g3 (i + 1) (by omega)).trans (c5 i hi)⟩
  exact hR hp1 g1 (P0_67 g2 hP (rowOk_V hC1)) g2 hC1
theorem k_failsE {d : Nat} {hp : amH} {R : xQ} {v e : Int32} (hH : bHk 84 bTT hp) (hv : v.toInt = 0 ∨ v.toInt = 1) (hR : ∀ hp1, bHk 84 bTT hp1 → ((v.toInt = 0 ∧ hp1 = hp) ∨ (v.toInt = 1 ∧ rU hp hp1 66 7 e.toInt)) → R (.inl (some (.int v))) hp1) : xK d 197 [.ref 66, .int v, .int e] hp R := by
  have em := aMin e
  have ex := aMax e
  refine xin (M := am_m197) rfl rfl rfl ?_
  refine xild 1 ⟨u197, _, rfl⟩ rfl rfl ?_
  refine xif_eq 4 ⟨u197, _, rfl⟩ rfl (fun c1 => ?_) (fun c1 => ?_)
  · refine xild 10 ⟨u197, _, rfl⟩ rfl rfl ?_
    exact xretB ⟨u197, _, rfl⟩ rfl (by omega) (hR _ hH (Or.inl ⟨by omega, rfl⟩))
  · refine xald 5 ⟨u197, _, rfl⟩ rfl rfl ?_
    refine xild 6 ⟨u197, _, rfl⟩ rfl rfl ?_
    refine xputI 9 hH ⟨u197, _, rfl⟩ rfl rfl ⟨rfl, rfl⟩ (by omega) (by omega) (fun hp6 hH6 U6 => ?_)
    have s6 := U6.1
    refine xild 10 ⟨u197, _, rfl⟩ rfl rfl ?_
    exact xretB ⟨u197, _, rfl⟩ rfl (by omega) (hR _ hH6 (Or.inr ⟨by omega, U6⟩))
theorem k_340E {d n : Nat} {h : Nat → sR} {sv : Option sR} {q : sR} {hp : amH} {R : xQ} (hH : bHk 84 bTT hp) (hP : P0 hp) (hC : rowOk (rN hp 67) q) (hY : hyR hp n h sv)
    (hR : ∀ (z : Int32) hp1, bHk 84 bTT hp1 → P0 hp1 → bFr wM hp hp1 → rowOk (rN hp1 67) q → hyR hp1 n h (some q) → z.toInt = (((trL q.2.1 225).length : Nat) : Int) → R (.inl (some (.int z))) hp1) : xK (d + 3) 340 [.ref 66] hp R := by
  obtain ⟨y1, y2, y3, y4⟩ := id hY
  refine xin (M := am_m340) rfl rfl rfl ?_
  refine xald 1 ⟨u340, _, rfl⟩ rfl rfl ?_
  refine xcst 2 (0) ⟨u340, _, rfl⟩ rfl (by decide) (fun z1 h1 => ?_)
  refine xputI 5 hH ⟨u340, _, rfl⟩ rfl rfl ⟨rfl, rfl⟩ (by omega) (by omega) (fun hp2 hH2 U2 => ?_)
  have s2 := U2.1
  refine xald 6 ⟨u340, _, rfl⟩ rfl rfl ?_
  refine xgetR 9 67 hH2 ⟨u340, _, rfl⟩ rfl rfl ?_
  refine xcst 10 (0) ⟨u340, _, rfl⟩ rfl (by decide) (fun z9 h9 => ?_)
  refine xald 11 ⟨u340, _, rfl⟩ rfl rfl ?_
  refine xgetR 14 70 hH2 ⟨u340, _, rfl⟩ rfl rfl ?_
  refine xcst 15 (0) ⟨u340, _, rfl⟩ rfl (by decide) (fun z14 h14 => ?_)
  refine xsip 18 (229) ⟨u340, _, rfl⟩ rfl (by decide) (fun z15 h15 => ?_)
  refine xcallS 21 [.ref 67, .int _, .ref 70, .int _, .int _] [] hH2 ⟨u340, _, rfl⟩ rfl rfl rfl rfl rfl (k_copy 0 0 229 hH2 (by decide) (by decide) (by decide) rfl rfl (by omega) (by omega) (by omega) (by omega) (by omega) (by decide) (fun hp18 hH18 F18 E18 => ⟨_, rfl, ?_⟩))
  have r70 : rowOk (rN hp18 70) q := rowOk_eq hC (fun i hi => by
    rw [E18 i hi, if_pos (by omega), Nat.sub_zero, Nat.zero_add, rU_ne U2 (by omega)])
  have C18 : rowOk (rN hp18 67) q := rowOk_eq hC (fun i hi => (r_fr F18 rfl).trans (rU_ne U2 (by omega)))
  have P18 : P0 hp18 := P0_no (P0_W (W := [(66, 7)]) (by decide) (rU_fr U2 rfl) hP) F18 (fun z => absurd z (by decide)) (fun z => absurd z (by decide)) (fun _ => rowOk_V r70) (by decide) (by decide)
  refine xald 22 ⟨u340, _, rfl⟩ rfl rfl ?_
  refine xcst 23 (1) ⟨u340, _, rfl⟩ rfl (by decide) (fun z22 h22 => ?_)
  refine xputI 26 hH18 ⟨u340, _, rfl⟩ rfl rfl (by rw [show z22 = 1 from Int32.toInt_inj.mp h22]; exact ⟨rfl, rfl⟩) (by omega) (by omega) (fun hp23 hH23 U23 => ?_)
  have s23 := U23.1
  have C23 : rowOk (rN hp23 67) q := rowOk_eq C18 (fun i hi => rU_ne U23 (by omega))
  have r70b : rowOk (rN hp23 70) q := rowOk_eq r70 (fun i hi => rU_ne U23 (by omega))
  have P23 : P0 hp23 := ⟨rowOk_V C23, fun _ => rowOk_V r70b, fun k hk hk2 => Vf_eq (fun i _ => rU_ne U23 (by omega)) (P18.2.2.1 k (by rw [← rU_ne U23 (c1 := 66) (i1 := 5) (by omega)]; exact hk) hk2), fun z => Vf_eq (fun i _ => rU_ne U23 (by omega)) (P18.2.2.2 (by rw [← rU_ne U23 (c1 := 69) (i1 := 0) (by omega)]; exact z))⟩
  have Y23 : hyR hp23 n h (some q) := ⟨((rU_ne U23 (by omega)).trans ((r_fr F18 rfl).trans (rU_ne U2 (by omega)))).trans y1, y2, fun k hk => rowOk_eq (y3 k hk) (fun i _ => (rU_ne U23 (by omega)).trans ((r_fr F18 rfl).trans (rU_ne U2 (by omega)))), U23.1.trans h22, r70b⟩
  refine xald 27 ⟨u340, _, rfl⟩ rfl rfl ?_
  refine xcall 30 [.ref 66] [] hH23 ⟨u340, _, rfl⟩ rfl rfl rfl rfl rfl (k_rtm hH23 (V := q.1) (T := q.2.1) (rowOk_rd C23) (fun z27 hp27 hH27 F27 B27 L27 e27 => ⟨_, rfl, ?_⟩))
  have hP27 : P0 hp27 := P0_W (W := bLT) (by decide) F27 P23
  exact xret ⟨u340, _, rfl⟩ rfl (hR _ hp27 hH27 hP27 ((((rU_fr U2 (by decide)).trans (bFr_sub F18 (by decide))).trans (rU_fr U23 (by decide))).trans (bFr_sub F27 (by decide))) (rowOk_eq C23 (fun i _ => r_fr F27 rfl)) (hyR_fr Y23 (r_fr F27 rfl) (r_fr F27 rfl) (fun i => r_fr F27 rfl) (fun i => r_fr F27 rfl)) e27)
theorem k_341E {d n : Nat} {h : Nat → sR} {sv : Option sR} {q0 : sR} {hp : amH} {R : xQ} (hH : bHk 84 bTT hp) (hP : P0 hp) (hC : rowOk (rN hp 67) q0) (hY : hyR hp n h sv)
    (hR : ∀ (z : Int32) hp1, bHk 84 bTT hp1 → P0 hp1 → bFr wM hp hp1 → ((sv = none ∧ rN hp1 66 7 = 1 ∧ rowOk (rN hp1 67) q0 ∧ hyR hp1 n h none) ∨ (∃ q, sv = some q ∧ rN hp1 66 7 = 0 ∧ rowOk (rN hp1 67) q ∧ hyR hp1 0 h (some q) ∧ z.toInt = (((trL q.2.1 225).length : Nat) : Int))) → R (.inl (some (.int z))) hp1) : xK (d + 3) 341 [.ref 66] hp R := by
  obtain ⟨y1, y2, y3, y4⟩ := id hY
  have b6 := rb_fld hH (f := 6) (lo := 2147483648) (hi := 2147483649) rfl
  refine xin (M := am_m341) rfl rfl rfl ?_
  refine xald 1 ⟨u341, _, rfl⟩ rfl rfl ?_
  refine xcst 2 (0) ⟨u341, _, rfl⟩ rfl (by decide) (fun z1 h1 => ?_)
  refine xputI 5 hH ⟨u341, _, rfl⟩ rfl rfl ⟨rfl, rfl⟩ (by omega) (by omega) (fun hp2 hH2 U2 => ?_)
  have s2 := U2.1
  have n2_66_6 : rN hp2 (66) 6 = rN hp (66) 6 := rU_ne U2 (by omega)
  refine xald 6 ⟨u341, _, rfl⟩ rfl rfl ?_
  refine xald 7 ⟨u341, _, rfl⟩ rfl rfl ?_
  refine xgetI 10 hH2 ⟨u341, _, rfl⟩ rfl rfl (fun z7 h7 => ?_)
  refine xif_ne 13 ⟨u341, _, rfl⟩ rfl (fun c10 => ?_) (fun c10 => ?_)
  · refine xcst 18 (0) ⟨u341, _, rfl⟩ rfl (by decide) (fun z17 h17 => ?_)
    refine xcst 19 (1) ⟨u341, _, rfl⟩ rfl (by decide) (fun z18 h18 => ?_)
    refine xcall 22 [.ref 66, .int _, .int _] [] hH2 ⟨u341, _, rfl⟩ rfl rfl rfl rfl rfl (k_failsE hH2 (by omega) (fun hp19 hH19 V19 => ⟨_, rfl, ?_⟩))
    refine xif_eq 25 ⟨u341, _, rfl⟩ rfl (fun c22 => ?_) (fun c22 => ?_)
    · obtain ⟨q, rfl⟩ : ∃ q, sv = some q := by
        cases sv with
        | none => have y4 : rN hp 66 6 = 0 := y4; omega
        | some q => exact ⟨q, rfl⟩
      have y4 : rN hp 66 6 = 1 ∧ rowOk (rN hp 70) q := y4
      have e19 : hp19 = hp2 := by
        rcases V19 with ⟨a, e⟩ | ⟨a, -⟩
        · exact e
        · omega
      subst e19
      refine xald 28 ⟨u341, _, rfl⟩ rfl rfl ?_
      refine xgetR 31 70 hH19 ⟨u341, _, rfl⟩ rfl rfl ?_
      refine xcst 32 (0) ⟨u341, _, rfl⟩ rfl (by decide) (fun z31 h31 => ?_)
      refine xald 33 ⟨u341, _, rfl⟩ rfl rfl ?_
      refine xgetR 36 67 hH19 ⟨u341, _, rfl⟩ rfl rfl ?_
      refine xcst 37 (0) ⟨u341, _, rfl⟩ rfl (by decide) (fun z36 h36 => ?_)
      refine xsip 40 (229) ⟨u341, _, rfl⟩ rfl (by decide) (fun z37 h37 => ?_)
      refine xcallS 43 [.ref 70, .int _, .ref 67, .int _, .int _] [] hH19 ⟨u341, _, rfl⟩ rfl rfl rfl rfl rfl (k_copy 0 0 229 hH19 (by decide) (by decide) (by decide) rfl rfl (by omega) (by omega) (by omega) (by omega) (by omega) (by decide) (fun hp40 hH40 F40 E40 => ⟨_, rfl, ?_⟩))
      have C40 : rowOk (rN hp40 67) q := rowOk_eq y4.2 (fun i hi => by rw [E40 i hi, if_pos (by omega), Nat.sub_zero, Nat.zero_add, rU_ne U2 (by omega)])
      have P40 : P0 hp40 := P0_67 F40 (P0_W (W := [(66, 7)]) (by decide) (rU_fr U2 rfl) hP) (rowOk_V C40)
      refine xald 44 ⟨u341, _, rfl⟩ rfl rfl ?_
      refine xcst 45 (0) ⟨u341, _, rfl⟩ rfl (by decide) (fun z44 h44 => ?_)
      refine xputI 48 hH40 ⟨u341, _, rfl⟩ rfl rfl ⟨rfl, rfl⟩ (by omega) (by omega) (fun hp45 hH45 U45 => ?_)
      have s45 := U45.1
      have n45_66_6 : rN hp45 (66) 6 = rN hp40 (66) 6 := rU_ne U45 (by omega)
      have C45 : rowOk (rN hp45 67) q := rowOk_eq C40 (fun i _ => rU_ne U45 (by omega))
      have g5 : rN hp40 66 5 = (n : Int) := ((r_fr F40 rfl).trans (rU_ne U2 (by omega))).trans y1
      have P45 : P0 hp45 := P0_dep (n := n) U45 g5 (by omega) P40
      have Y45 : hyR hp45 0 h (some q) := ⟨U45.1.trans h44, Nat.zero_le _, fun k hk => absurd hk (Nat.not_lt_zero k), ((rU_ne U45 (by omega)).trans ((r_fr F40 rfl).trans (rU_ne U2 (by omega)))).trans y4.1, rowOk_eq y4.2 (fun i _ => (rU_ne U45 (by omega)).trans ((r_fr F40 rfl).trans (rU_ne U2 (by omega))))⟩
      refine xald 49 ⟨u341, _, rfl⟩ rfl rfl ?_
      refine xcall 52 [.ref 66] [] hH45 ⟨u341, _, rfl⟩ rfl rfl rfl rfl rfl (k_rtm hH45 (V := q.1) (T := q.2.1) (rowOk_rd C45) (fun z49 hp49 hH49 F49 B49 L49 e49 => ⟨_, rfl, ?_⟩))
      have hP49 : P0 hp49 := P0_W (W := bLT) (by decide) F49 P45
      exact xret ⟨u341, _, rfl⟩ rfl (hR _ hp49 hH49 hP49 ((((rU_fr U2 (by decide)).trans (bFr_sub F40 (by decide))).trans (rU_fr U45 (by decide))).trans (bFr_sub F49 (by decide))) (Or.inr ⟨q, rfl, ((r_fr F49 rfl).trans ((rU_ne U45 (by omega)).trans (r_fr F40 rfl))).trans (U2.1.trans h1), rowOk_eq C45 (fun i _ => r_fr F49 rfl), hyR_fr Y45 (r_fr F49 rfl) (r_fr F49 rfl) (fun i => r_fr F49 rfl) (fun i => r_fr F49 rfl), e49⟩))
    · rcases V19 with ⟨a, -⟩ | ⟨a, -⟩ <;> omega
  · refine xcst 14 (1) ⟨u341, _, rfl⟩ rfl (by decide) (fun z13 h13 => ?_)
    refine xgoto ⟨u341, _, rfl⟩ ?_
    refine xcst 19 (1) ⟨u341, _, rfl⟩ rfl (by decide) (fun z18 h18 => ?_)
    refine xcall 22 [.ref 66, .int _, .int _] [] hH2 ⟨u341, _, rfl⟩ rfl rfl rfl rfl rfl (k_failsE hH2 (by omega) (fun hp19 hH19 V19 => ⟨_, rfl, ?_⟩))
    refine xif_eq 25 ⟨u341, _, rfl⟩ rfl (fun c22 => ?_) (fun c22 => ?_)
    · rcases V19 with ⟨a, -⟩ | ⟨a, -⟩ <;> omega
    · refine xcst 26 (0) ⟨u341, _, rfl⟩ rfl (by decide) (fun z25 h25 => ?_)
      rcases V19 with ⟨a, -⟩ | ⟨a, U19⟩
      · omega
      · refine xret ⟨u341, _, rfl⟩ rfl (hR _ hp19 hH19 (P0_W (W := [(66, 7)]) (by decide) ((rU_fr U2 rfl).trans (rU_fr U19 rfl)) hP) ((rU_fr U2 (by decide)).trans (rU_fr U19 (by decide))) (Or.inl ⟨?_, U19.1.trans h18, rowOk_eq hC (fun i _ => (rU_ne U19 (by omega)).trans (rU_ne U2 (by omega))), ?_⟩))
        · cases sv with
          | none => rfl
          | some q => exact absurd y4.1 (by omega)
        · cases sv with
          | none => exact hyR_fr hY ((rU_ne U19 (by omega)).trans (rU_ne U2 (by omega))) ((rU_ne U19 (by omega)).trans (rU_ne U2 (by omega))) (fun i => (rU_ne U19 (by omega)).trans (rU_ne U2 (by omega))) (fun i => (rU_ne U19 (by omega)).trans (rU_ne U2 (by omega)))
          | some q => exact absurd y4.1 (by omega)
