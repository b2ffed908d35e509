/-! ##### 19.m.012.26k ##### -/
section
/-! ===== the class reads its text ===== -/
theorem tSt_1 {y : tY} {V s : Nat} {T : sT} (h : ¬ (tWd y s wDev = true ∨ tWd y s wTri = true)) : tSt y V T s = .inl (1, s) := by
  unfold tSt
  rw [if_pos h]
theorem tSt_2 {y : tY} {V s : Nat} {T : sT} (h : tWd y s wDev = true ∨ tWd y s wTri = true) (h2 : ¬ tNum y (tN y s) 0 ((V : Int) - 1) [] = 0) : tSt y V T s = .inl (tNum y (tN y s) 0 ((V : Int) - 1) [], tN y s) := by
  unfold tSt
  rw [if_neg (fun z => z h), if_pos h2]
theorem tSt_3 {y : tY} {V s : Nat} {T : sT} (h : tWd y s wDev = true ∨ tWd y s wTri = true) (h2 : tNum y (tN y s) 0 ((V : Int) - 1) [] = 0) (h3 : ¬ tNum y (tN y (tN y s)) 0 ((V : Int) - 1) [tV y (tN y s)] = 0) : tSt y V T s = .inl (tNum y (tN y (tN y s)) 0 ((V : Int) - 1) [tV y (tN y s)], tN y (tN y s)) := by
  unfold tSt
  rw [if_neg (fun z => z h), if_neg (fun z => z h2), if_pos h3]
theorem tSt_4 {y : tY} {V s : Nat} {T : sT} (h : tWd y s wDev = true ∨ tWd y s wTri = true) (h2 : tNum y (tN y s) 0 ((V : Int) - 1) [] = 0) (h3 : tNum y (tN y (tN y s)) 0 ((V : Int) - 1) [tV y (tN y s)] = 0) (h4 : ¬ tNum y (tN y (tN y (tN y s))) 0 ((V : Int) - 1) [tV y (tN y s), tV y (tN y (tN y s))] = 0) : tSt y V T s = .inl (tNum y (tN y (tN y (tN y s))) 0 ((V : Int) - 1) [tV y (tN y s), tV y (tN y (tN y s))], tN y (tN y (tN y s))) := by
  unfold tSt
  rw [if_neg (fun z => z h), if_neg (fun z => z h2), if_neg (fun z => z h3), if_pos h4]
theorem rSt_h {y : tY} {V : Nat} {T : sT} {s : Nat} {z : Int} {hp hp0 hp1 : amH} (h : rSt y V T s z hp hp1) (e1 : rN hp 1 1 = rN hp0 1 1) (e2 : rN hp 1 2 = rN hp0 1 2) : rSt y V T s z hp0 hp1 := by
  unfold rSt at h ⊢
  rw [e1, e2] at h
  exact h
theorem pr_0 {m : Nat} (h : m = 0) : ∀ i, i < 15 → m.testBit i = decide ((i : Int) ∈ ([] : List Int)) := by
  intro i _
  subst h
  simp
theorem pr_or {m v : Nat} {pre pre2 : List Int} (hv : v < 15) (h : ∀ i, i < 15 → m.testBit i = decide ((i : Int) ∈ pre)) (h2 : ∀ i : Int, i ∈ pre2 ↔ (i ∈ pre ∨ i = (v : Int))) : ∀ i, i < 15 → (m ||| 2 ^ v).testBit i = decide ((i : Int) ∈ pre2) := by
  intro i hi
  rw [Nat.testBit_or, h i hi, p2_test]
  by_cases e : i = v
  · subst e
    simp [h2]
  · have : ¬ (i : Int) = (v : Int) := by omega
    simp [h2, e, this]
theorem t79 {d : Nat} {hp : amH} {R : xQ} {y : tY} {s V : Nat} {T : sT} {dv w k : Int32} (hH : bHk 84 bTT hp) (Y : cB hp = y) (hT : cT hp y (tN y s)) (hs : (s : Int) ≤ rN hp 1 0) (hB : bdOk hp 8 V T) (hw : w.toInt = 0) (hk : k.toInt = 0) (hwd : tWd y s wDev = true ∨ tWd y s wTri = true) (hdv : (dv.toInt = 1 ∧ tWd y s wDev = true) ∨ (dv.toInt = 0 ∧ tWd y s wTri = true))
    (hR : ∀ (z : Int32) hp1, bHk 84 bTT hp1 → pFr hp hp1 → rSt y V T s z.toInt hp hp1 → R (.inl (some (.int z))) hp1) :
    xV (d + 4) am_m79 35 [some (.ref 1), some (.ref 8), some (.int dv), some (.int w), some (.int k)] [] hp R := by
  have hok : tOk (rN hp 1 0).toNat y := by rw [← Y]; exact cB_ok hH
  have b0 := b1_0 hH
  have bV := hB.2.1.2.1
  have u1 := tN_le hok (s := s) (by omega)
  have u2 := tN_le hok (s := tN y s) (by omega)
  have u3 := tN_le hok (s := tN y (tN y s)) (by omega)
  have u4 := tN_le hok (s := tN y (tN y (tN y s))) (by omega)
  refine l79 (pre := []) (m := 0) (kk := 0) hH Y hT (by omega) hB (by omega) (by decide) (pr_0 rfl) (by omega) (by decide) (fun z hp1 e1 e2 e3 e4 e5 e6 => hR z hp1 e3 e4 (rSt_e (tSt_2 hwd e1) e2 e5 e6)) (fun w1 k1 hp1 n1 v1a v1b _ H1 F1 Y1 T1 B1 W1 M1 K1 A1 A1b => ?_)
  have q0 : rN hp1 1 0 = rN hp 1 0 := p_n F1 (by omega)
  have p1 := pr_or (v := (tV y (tN y s)).toNat) (pre2 := [tV y (tN y s)]) (by omega) (pr_0 (m := 0) rfl) (fun i => by rw [show (((tV y (tN y s)).toNat : Nat) : Int) = tV y (tN y s) by omega]; simp)
  refine l79 (pre := [tV y (tN y s)]) (kk := 1) H1 Y1 T1 (by omega) B1 W1 M1 p1 (by omega) (by decide) (fun z hp2 e1 e2 e3 e4 e5 e6 => hR z hp2 e3 (F1.trans e4) (rSt_e (tSt_3 hwd n1 e1) e2 e5 e6)) (fun w2 k2 hp2 n2 v2a v2b v2n H2 F2 Y2 T2 B2 W2 M2 K2 A2 A2b => ?_)
  have q1 : rN hp2 1 0 = rN hp1 1 0 := p_n F2 (by omega)
  have p2 := pr_or (v := (tV y (tN y (tN y s))).toNat) (pre2 := [tV y (tN y s), tV y (tN y (tN y s))]) (by omega) p1 (fun i => by rw [show (((tV y (tN y (tN y s))).toNat : Nat) : Int) = tV y (tN y (tN y s)) by omega]; simp)
  refine l79 (pre := [tV y (tN y s), tV y (tN y (tN y s))]) (kk := 2) H2 Y2 T2 (by omega) B2 W2 M2 p2 (by omega) (by decide) (fun z hp3 e1 e2 e3 e4 e5 e6 => hR z hp3 e3 ((F1.trans F2).trans e4) (rSt_e (tSt_4 hwd n1 n2 e1) e2 e5 e6)) (fun w3 k3 hp3 n3 v3a v3b v3n H3 F3 Y3 T3 B3 W3 M3 K3 A3 A3b => ?_)
  have q2 : rN hp3 1 0 = rN hp2 1 0 := p_n F3 (by omega)
  simp only [List.mem_singleton, List.mem_cons, List.not_mem_nil, or_false, not_or] at v2n v3n
  refine e79 (v1 := (tV y (tN y s)).toNat) (v2 := (tV y (tN y (tN y s))).toNat) (v3 := (tV y (tN y (tN y (tN y s)))).toNat) H3 ((F1.trans F2).trans F3) (by omega) (by omega) Y3 T3 (by omega) B3 ⟨hwd, n1, n2, n3⟩ (by omega) (by omega) (by omega) (by omega) (by omega) (by omega) (by omega) (by omega) (by omega) ?_ (by omega) hdv hR
  rw [W3, Nat.zero_or]
  rfl
theorem k_rds {d : Nat} {hp : amH} {R : xQ} {y : tY} {s V : Nat} {T : sT} (hH : bHk 84 bTT hp) (Y : cB hp = y) (hT : cT hp y s) (hs : (s : Int) ≤ rN hp 1 0) (hB : bdOk hp 8 V T)
    (hR : ∀ (z : Int32) hp1, bHk 84 bTT hp1 → pFr hp hp1 → rSt y V T s z.toInt hp hp1 → R (.inl (some (.int z))) hp1) : xK (d + 4) 79 [.ref 1, .ref 8] hp R := by
  have hok : tOk (rN hp 1 0).toNat y := by rw [← Y]; exact cB_ok hH
  have b0 := b1_0 hH
  have w1 := tE_le hok (s := s) (by omega)
  refine xin (M := am_m79) rfl rfl rfl ?_
  refine xald 1 ⟨u79, _, rfl⟩ rfl rfl ?_
  refine xldcW 3 ⟨u79, _, rfl⟩ rfl ?_
  refine xcallC 6 (o := 1) [.ref 1000001] [] hH ⟨u79, _, rfl⟩ rfl rfl (by decide) rfl (by decide) rfl ⟨rfl, rfl, rfl, rfl⟩ rfl (k_cw (l := wDev) rfl ⟨rfl, by decide⟩ hH Y hT (by omega) (fun z3 h3 => ⟨_, rfl, ?_⟩))
  refine xist 7 ⟨u79, _, rfl⟩ rfl rfl ?_
  refine xild 8 ⟨u79, _, rfl⟩ rfl rfl ?_
  refine xif_ne 11 ⟨u79, _, rfl⟩ rfl (fun c8 => ?_) (fun c8 => ?_)
  · refine xald 27 ⟨u79, _, rfl⟩ rfl rfl ?_
    refine xcallC 30 (o := 1) [] [] hH ⟨u79, _, rfl⟩ rfl rfl (by decide) rfl (by decide) rfl ⟨rfl, rfl, rfl, rfl⟩ rfl (k_cadv hH Y (p := tE y s) hT.2.1 (by omega) (fun hp27 hH27 F27 Y27 T27 => ⟨_, rfl, ?_⟩))
    refine xcst 31 (0) ⟨u79, _, rfl⟩ rfl (by decide) (fun z30 h30 => ?_)
    refine xist 32 ⟨u79, _, rfl⟩ rfl rfl ?_
    refine xcst 33 (0) ⟨u79, _, rfl⟩ rfl (by decide) (fun z32 h32 => ?_)
    refine xist2 35 ⟨u79, _, rfl⟩ rfl rfl ?_
    have q0 : rN hp27 1 0 = rN hp 1 0 := r_fr F27 rfl
    exact t79 hH27 Y27 T27 (by omega) (bdOk_fr hB (r_fr F27 rfl) (fun i => r_fr F27 rfl) (fun i => r_fr F27 rfl)) (by omega) (by omega) (Or.inl (by rcases h3 with g | g; exact g.2; omega)) (Or.inl ⟨by omega, by rcases h3 with g | g; exact g.2; omega⟩) (fun z hp1 g1 g2 g3 => hR z hp1 g1 ((pFr_t F27).trans g2) (rSt_h g3 (r_fr F27 rfl) (r_fr F27 rfl)))
  · refine xald 12 ⟨u79, _, rfl⟩ rfl rfl ?_
    refine xldcW 14 ⟨u79, _, rfl⟩ rfl ?_
    refine xcallC 17 (o := 1) [.ref 1000002] [] hH ⟨u79, _, rfl⟩ rfl rfl (by decide) rfl (by decide) rfl ⟨rfl, rfl, rfl, rfl⟩ rfl (k_cw (l := wTri) rfl ⟨rfl, by decide⟩ hH Y hT (by omega) (fun z14 h14 => ⟨_, rfl, ?_⟩))
    refine xif_ne 20 ⟨u79, _, rfl⟩ rfl (fun c17 => ?_) (fun c17 => ?_)
    · refine xald 27 ⟨u79, _, rfl⟩ rfl rfl ?_
      refine xcallC 30 (o := 1) [] [] hH ⟨u79, _, rfl⟩ rfl rfl (by decide) rfl (by decide) rfl ⟨rfl, rfl, rfl, rfl⟩ rfl (k_cadv hH Y (p := tE y s) hT.2.1 (by omega) (fun hp27 hH27 F27 Y27 T27 => ⟨_, rfl, ?_⟩))
      refine xcst 31 (0) ⟨u79, _, rfl⟩ rfl (by decide) (fun z30 h30 => ?_)
      refine xist 32 ⟨u79, _, rfl⟩ rfl rfl ?_
      refine xcst 33 (0) ⟨u79, _, rfl⟩ rfl (by decide) (fun z32 h32 => ?_)
      refine xist2 35 ⟨u79, _, rfl⟩ rfl rfl ?_
      have q0 : rN hp27 1 0 = rN hp 1 0 := r_fr F27 rfl
      exact t79 hH27 Y27 T27 (by omega) (bdOk_fr hB (r_fr F27 rfl) (fun i => r_fr F27 rfl) (fun i => r_fr F27 rfl)) (by omega) (by omega) (Or.inr (by rcases h14 with g | g; exact g.2; omega)) (Or.inr ⟨by omega, by rcases h14 with g | g; exact g.2; omega⟩) (fun z hp1 g1 g2 g3 => hR z hp1 g1 ((pFr_t F27).trans g2) (rSt_h g3 (r_fr F27 rfl) (r_fr F27 rfl)))
    · refine xald 21 ⟨u79, _, rfl⟩ rfl rfl ?_
      refine xcst 22 (1) ⟨u79, _, rfl⟩ rfl (by decide) (fun z21 h21 => ?_)
      refine xcallC 25 (o := 1) [.int _] [] hH ⟨u79, _, rfl⟩ rfl rfl (by decide) rfl (by decide) rfl ⟨rfl, rfl, rfl, rfl⟩ rfl (k_cf hH (fun z22 hp22 Z22 hH22 F22 A22 B22 => ⟨_, rfl, ?_⟩))
      exact xretB ⟨u79, _, rfl⟩ rfl (by omega) (hR _ hp22 hH22 (pFr_f F22) (rSt_e (tSt_1 (fun z => by rcases z with z | z; rcases h3 with g | g; omega; rw [z] at g; exact absurd g.2 (by decide); rcases h14 with g | g; omega; rw [z] at g; exact absurd g.2 (by decide))) (by omega) (by omega) (by rw [B22]; exact hT.1)))
/-- what is read -/
def rRs (y : tY) (V f : Nat) (T : sT) (s : Nat) (z : Int) (hp1 : amH) : Prop := match tRs y V f T s with
  | .inl e => z = 0 ∧ rN hp1 1 1 = e.1 ∧ rN hp1 1 2 = (e.2 : Int)
  | .inr T1 => z = 1 ∧ bdOk hp1 8 V T1 ∧ rN hp1 1 1 = 0 ∧ rN hp1 1 2 = -1
/-- after a statement that is read, the text is nearer to its end -/
theorem tSt_gt {n : Nat} {y : tY} (h : tOk n y) {V : Nat} {T : sT} {s : Nat} {q : sT × Nat} (e : tSt y V T s = .inr q) : s < q.2 ∧ (s ≤ n → q.2 ≤ n) := by
  have hw : tWd y s wDev = true ∨ tWd y s wTri = true := by
    apply Classical.byContradiction
    intro z
    rw [tSt_1 z] at e
    cases e
  have hk : ¬ tK y s = 0 := by
    rcases hw with g | g
    · have := (of_decide_eq_true g).1; omega
    · have := (of_decide_eq_true g).1; omega
  have e2 : q.2 = tN y (tN y (tN y (tN y (tN y s)))) := by
    unfold tSt at e
    rw [if_neg (fun z => z hw)] at e
    split at e
    · cases e
    · split at e
      · cases e
      · split at e
        · cases e
        · split at e
          · cases e
          · split at e
            · cases e
            · split at e
              · cases e; rfl
              · split at e
                · cases e
                · cases e; rfl
  have g1 := tN_gt h hk
  have g2 := tN_ge (y := y) (s := tN y s)
  have g3 := tN_ge (y := y) (s := tN y (tN y s))
  have g4 := tN_ge (y := y) (s := tN y (tN y (tN y s)))
  have g5 := tN_ge (y := y) (s := tN y (tN y (tN y (tN y s))))
  refine ⟨by omega, fun hs => ?_⟩
  rw [e2]
  exact tN_le h (tN_le h (tN_le h (tN_le h (tN_le h hs))))
theorem b77 {d : Nat} {hp : amH} {R : xQ} {b k : Int32} (hb : b.toInt = 0) (hR : R (.inl (some (.int b))) hp) : xV d am_m77 27 [some (.ref 1), some (.ref 8), some (.int b), some (.int k)] [] hp R := by
  refine xild 28 ⟨u77, _, rfl⟩ rfl rfl ?_
  refine xsip 31 (600) ⟨u77, _, rfl⟩ rfl (by decide) (fun z28 h28 => ?_)
  refine xcmp_ge 34 ⟨u77, _, rfl⟩ rfl (fun c31 => ?_) (fun c31 => ?_)
  · refine xild 58 ⟨u77, _, rfl⟩ rfl rfl ?_
    exact xretB ⟨u77, _, rfl⟩ rfl (by omega) (hR)
  · refine xild 35 ⟨u77, _, rfl⟩ rfl rfl ?_
    refine xif_eq 38 ⟨u77, _, rfl⟩ rfl (fun c35 => ?_) (fun c35 => ?_)
    · refine xild 58 ⟨u77, _, rfl⟩ rfl rfl ?_
      exact xretB ⟨u77, _, rfl⟩ rfl (by omega) (hR)
    · omega
theorem l77 {d : Nat} {hp0 : amH} {R : xQ} {y : tY} {V : Nat} (hok : tOk (rN hp0 1 0).toNat y) (hb0 : rN hp0 1 0 ≤ 600) :
    ∀ (f s q : Nat) (T : sT) (hp : amH) (k : Int32), bHk 84 bTT hp → pFr hp0 hp → cB hp = y → cT hp y s → (s : Int) ≤ rN hp0 1 0 → bdOk hp 8 V T → rN hp 1 1 = 0 → rN hp 1 2 = -1 → k.toInt = (q : Int) → q ≤ s → 600 < f + s →
    (∀ (z : Int32) hp1, bHk 84 bTT hp1 → pFr hp0 hp1 → rRs y V f T s z.toInt hp1 → R (.inl (some (.int z))) hp1) → ∀ b : Int32, b.toInt = 1 → xV (d + 5) am_m77 27 [some (.ref 1), some (.ref 8), some (.int b), some (.int k)] [] hp R := by
  intro f
  induction f with
  | zero => intro s q T hp k hH hF Y hT hs hB h1 h2 hk hq hf hR b hb; omega
  | succ f ih =>
    intro s q T hp k hH hF Y hT hs hB h1 h2 hk hq hf hR b hb
    have q0 : rN hp 1 0 = rN hp0 1 0 := p_n hF (by omega)
    have K0 := hT.2.2.1
    have ns : ¬ tK y s = 0 → (s : Int) < rN hp0 1 0 := fun z => by
      rcases Nat.lt_or_ge s (rN hp0 1 0).toNat with g | g
      · omega
      · exact absurd (tK_0.mpr (hok.2.2 s g)) z
    unfold rRs tRs at hR
    refine xild 28 ⟨u77, _, rfl⟩ rfl rfl ?_
    refine xsip 31 (600) ⟨u77, _, rfl⟩ rfl (by decide) (fun z28 h28 => ?_)
    refine xcmp_ge 34 ⟨u77, _, rfl⟩ rfl (fun c31 => ?_) (fun c31 => ?_)
    · have k0 : tK y s = 0 := Classical.byContradiction (fun z => by have := ns z; omega)
      refine xild 58 ⟨u77, _, rfl⟩ rfl rfl ?_
      rw [if_pos k0] at hR
      exact xretB ⟨u77, _, rfl⟩ rfl (by omega) (hR _ hp hH hF ⟨hb, hB, h1, h2⟩)
    · refine xild 35 ⟨u77, _, rfl⟩ rfl rfl ?_
      refine xif_eq 38 ⟨u77, _, rfl⟩ rfl (fun c35 => ?_) (fun c35 => ?_)
      · omega
      · refine xald 39 ⟨u77, _, rfl⟩ rfl rfl ?_
        refine xgetC 42 hH ⟨u77, _, rfl⟩ rfl (by decide) (by decide) rfl rfl (by decide) (fun z39 h39 => ?_)
        refine xif_eq 45 ⟨u77, _, rfl⟩ rfl (fun c42 => ?_) (fun c42 => ?_)
        · refine xild 58 ⟨u77, _, rfl⟩ rfl rfl ?_
          rw [if_pos (ckK_0.mp (by omega))] at hR
          exact xretB ⟨u77, _, rfl⟩ rfl (by omega) (hR _ hp hH hF ⟨hb, hB, h1, h2⟩)
        · have nk : ¬ tK y s = 0 := fun z => by have := ckK_0.mpr z; omega
          rw [if_neg nk] at hR
          refine xald 46 ⟨u77, _, rfl⟩ rfl rfl ?_
          refine xald 47 ⟨u77, _, rfl⟩ rfl rfl ?_
          refine xcallC 50 (o := 1) [.ref 8] [] hH ⟨u77, _, rfl⟩ rfl rfl (by decide) rfl (by decide) rfl ⟨rfl, rfl, rfl, rfl⟩ rfl (k_rds hH Y hT (by omega) hB (fun z47 hp47 hH47 F47 r47 => ⟨_, rfl, ?_⟩))
          refine xist 51 ⟨u77, _, rfl⟩ rfl rfl ?_
          refine xinc 54 (1) ⟨u77, _, rfl⟩ rfl rfl rfl (by decide) (by omega) (by omega) (fun z51 h51 => ?_)
          refine xgoto ⟨u77, _, rfl⟩ ?_
          cases e : tSt y V T s with
          | inl er =>
            rw [e] at hR
            unfold rSt at r47
            rw [e] at r47
            have r47 : z47.toInt = 0 ∧ rN hp47 1 1 = er.1 ∧ rN hp47 1 2 = (er.2 : Int) := r47
            exact b77 (by omega) (hR _ hp47 hH47 (hF.trans F47) r47)
          | inr qq =>
            rw [e] at hR
            unfold rSt at r47
            rw [e] at r47
            obtain ⟨r1, r2, r3, S1, S2⟩ := r47
            have gt := tSt_gt hok e
            exact ih qq.2 (q + 1) qq.1 hp47 _ hH47 (hF.trans F47) (by rw [cB_p F47, Y]) r3 (by have := gt.2 (by omega); omega) r2 (by omega) (by omega) (by omega) (by omega) (by omega) hR _ r1
theorem pFr_U {hp hp1 : amH} {j : Nat} {m : Int} (U : rU hp hp1 1 j m) (h : ¬ j = 0 ∧ ¬ j = 3) : pFr hp hp1 := fun c k e => U.2 c k (fun z => e (Or.inl ⟨z.1, by rw [z.2]; exact h.1, by rw [z.2]; exact h.2⟩))
def rRd (y : tY) (z : Int) (hp1 : amH) : Prop := match tRd y with
  | .inl e => z = 0 ∧ rN hp1 1 1 = e.1 ∧ rN hp1 1 2 = (e.2 : Int)
  | .inr q => z = 1 ∧ bdOk hp1 8 q.1 q.2 ∧ rN hp1 1 1 = 0 ∧ rN hp1 1 2 = -1
/-- the class reads its text -/
theorem k_read {d : Nat} {hp : amH} {R : xQ} {y : tY} (hH : bHk 84 bTT hp) (Y : cB hp = y)
    (hR : ∀ (z : Int32) hp1, bHk 84 bTT hp1 → pFr hp hp1 → rRd y z.toInt hp1 → R (.inl (some (.int z))) hp1) : xK (d + 5) 77 [.ref 1, .ref 8] hp R := by
  have hok : tOk (rN hp 1 0).toNat y := by rw [← Y]; exact cB_ok hH
  have b0 := b1_0 hH
  have u0 := tS_le hok (p := 0) (by omega)
  have u1 := tN_le hok (s := tS y 0) (by omega)
  have u2 := tN_le hok (s := tN y (tS y 0)) (by omega)
  have u3 := tN_le hok (s := tN y (tN y (tS y 0))) (by omega)
  refine xin (M := am_m77) rfl rfl rfl ?_
  refine xald 1 ⟨u77, _, rfl⟩ rfl rfl ?_
  refine xcst 2 (0) ⟨u77, _, rfl⟩ rfl (by decide) (fun z1 h1 => ?_)
  refine xputC 5 hH ⟨u77, _, rfl⟩ rfl (by decide) (by decide) rfl rfl (by decide) ⟨rfl, rfl⟩ (by omega) (by omega) (fun hp2 hH2 U2 => ?_)
  have s2 := U2.1
  have n2_1_0 : rN hp2 (1) 0 = rN hp (1) 0 := rU_ne U2 (by omega)
  have n2_1_2 : rN hp2 (1) 2 = rN hp (1) 2 := rU_ne U2 (by omega)
  have n2_1_4 : rN hp2 (1) 4 = rN hp (1) 4 := rU_ne U2 (by omega)
  refine xald 6 ⟨u77, _, rfl⟩ rfl rfl ?_
  refine xcst 7 (-1) ⟨u77, _, rfl⟩ rfl (by decide) (fun z6 h6 => ?_)
  refine xputC 10 hH2 ⟨u77, _, rfl⟩ rfl (by decide) (by decide) rfl rfl (by decide) ⟨rfl, rfl⟩ (by omega) (by omega) (fun hp7 hH7 U7 => ?_)
  have s7 := U7.1
  have n7_1_0 : rN hp7 (1) 0 = rN hp2 (1) 0 := rU_ne U7 (by omega)
  have n7_1_1 : rN hp7 (1) 1 = rN hp2 (1) 1 := rU_ne U7 (by omega)
  have n7_1_4 : rN hp7 (1) 4 = rN hp2 (1) 4 := rU_ne U7 (by omega)
  refine xald 11 ⟨u77, _, rfl⟩ rfl rfl ?_
  refine xcst 12 (0) ⟨u77, _, rfl⟩ rfl (by decide) (fun z11 h11 => ?_)
  refine xputC 15 hH7 ⟨u77, _, rfl⟩ rfl (by decide) (by decide) rfl rfl (by decide) ⟨rfl, rfl⟩ (by omega) (by omega) (fun hp12 hH12 U12 => ?_)
  have s12 := U12.1
  have n12_1_0 : rN hp12 (1) 0 = rN hp7 (1) 0 := rU_ne U12 (by omega)
  have n12_1_1 : rN hp12 (1) 1 = rN hp7 (1) 1 := rU_ne U12 (by omega)
  have n12_1_2 : rN hp12 (1) 2 = rN hp7 (1) 2 := rU_ne U12 (by omega)
  refine xald 16 ⟨u77, _, rfl⟩ rfl rfl ?_
  refine xcallC 19 (o := 1) [] [] hH12 ⟨u77, _, rfl⟩ rfl rfl (by decide) rfl (by decide) rfl ⟨rfl, rfl, rfl, rfl⟩ rfl (k_cadv hH12 ((cB_U U12 (by decide)).trans ((cB_U U7 (by decide)).trans ((cB_U U2 (by decide)).trans Y))) (p := 0) (by omega) (by omega) (fun hp16 hH16 F16 Y16 T16 => ⟨_, rfl, ?_⟩))
  have G16 := (((pFr_U U2 (by decide)).trans (pFr_U U7 (by decide))).trans (pFr_U U12 (by decide))).trans (pFr_t F16)
  have n16 : rN hp16 1 0 = rN hp 1 0 := p_n G16 (by omega)
  have c16 : rN hp16 1 1 = rN hp12 1 1 := r_fr F16 rfl
  have o16 : rN hp16 1 2 = rN hp12 1 2 := r_fr F16 rfl
  refine xald 20 ⟨u77, _, rfl⟩ rfl rfl ?_
  refine xald 21 ⟨u77, _, rfl⟩ rfl rfl ?_
  refine xcallC 24 (o := 1) [.ref 8] [] hH16 ⟨u77, _, rfl⟩ rfl rfl (by decide) rfl (by decide) rfl ⟨rfl, rfl, rfl, rfl⟩ rfl (k_rdp hH16 Y16 T16 (by omega) (fun z21 hp21 hH21 F21 r21 => ⟨_, rfl, ?_⟩))
  refine xist 25 ⟨u77, _, rfl⟩ rfl rfl ?_
  refine xcst 26 (0) ⟨u77, _, rfl⟩ rfl (by decide) (fun z25 h25 => ?_)
  refine xist 27 ⟨u77, _, rfl⟩ rfl rfl ?_
  cases e : tPt y (tS y 0) with
  | inl er =>
    unfold rPt at r21
    rw [e] at r21
    refine b77 (by have := r21.1; omega) (hR _ hp21 hH21 (G16.trans F21) ?_)
    unfold rRd tRd
    rw [e]
    exact r21
  | inr V =>
    unfold rPt at r21
    rw [e] at r21
    obtain ⟨r1, r2, r3, r4, r5, r6, r7⟩ := r21
    have n21 : rN hp21 1 0 = rN hp 1 0 := (p_n F21 (by omega)).trans n16
    refine l77 (hp0 := hp) hok b0.2 601 _ 0 sE hp21 _ hH21 (G16.trans F21) (by rw [cB_p F21, Y16]) r5 (by omega) r4 (by omega) (by omega) (by omega) (by omega) (by omega) (fun z hp1 g1 g2 g3 => hR z hp1 g1 g2 ?_) _ r1
    unfold rRd tRd
    rw [e]
    unfold rRs at g3
    cases e2 : tRs y V 601 sE (tN y (tN y (tN y (tS y 0)))) with
    | inl er => rw [e2] at g3; show (match (match tRs y V 601 sE (tN y (tN y (tN y (tS y 0)))) with | .inl e => Sum.inl e | .inr T => Sum.inr (V, T)) with | Sum.inl e => z.toInt = 0 ∧ rN hp1 1 1 = e.fst ∧ rN hp1 1 2 = (e.snd : Int) | Sum.inr q => z.toInt = 1 ∧ bdOk hp1 8 q.fst q.snd ∧ rN hp1 1 1 = 0 ∧ rN hp1 1 2 = -1); rw [e2]; exact g3
    | inr T1 => rw [e2] at g3; show (match (match tRs y V 601 sE (tN y (tN y (tN y (tS y 0)))) with | .inl e => Sum.inl e | .inr T => Sum.inr (V, T)) with | Sum.inl e => z.toInt = 0 ∧ rN hp1 1 1 = e.fst ∧ rN hp1 1 2 = (e.snd : Int) | Sum.inr q => z.toInt = 1 ∧ bdOk hp1 8 q.fst q.snd ∧ rN hp1 1 1 = 0 ∧ rN hp1 1 2 = -1); rw [e2]; exact g3
end
/-! ##### 19.m.013.26l ##### -/
section
/-! ===== the reference's tokens ===== -/
theorem rB_ok {hp : amH} (hH : bHk 84 bTT hp) : tOk (rN hp 66 21).toNat (rB hp) := by
  have b := b21 hH
  refine ⟨by omega, fun k hk => ?_, fun k hk => ?_⟩
  · unfold rB
    rw [if_pos (by omega)]
    have := rb_row hH (q := 80) (i := k) (by decide) rfl (by omega)
    omega
  · unfold rB
    rw [if_neg (by omega)]
theorem rB_F {hp hp1 : amH} {W : List (Nat × Nat)} (F : bFr W hp hp1) (h1 : bIn W 66 21 = false) (h2 : ∀ k, bIn W 80 k = false) : rB hp1 = rB hp := by
  funext k
  unfold rB
  rw [show rN hp1 66 21 = rN hp 66 21 from r_fr F h1, show rN hp1 80 k = rN hp 80 k from r_fr F (h2 k)]
theorem rB_U {hp hp1 : amH} {j : Nat} {m : Int} (U : rU hp hp1 66 j m) (hj : ¬ j = 21) : rB hp1 = rB hp := by
  funext k
  unfold rB
  rw [rU_ne U (by omega), rU_ne U (by omega)]
theorem k_rB {d : Nat} {hp : amH} {R : xQ} {k : Int32} {y : tY} {q : Nat} (hH : bHk 84 bTT hp) (hY : rB hp = y) (hk : k.toInt = (q : Int)) (hR : ∀ z : Int32, z.toInt = y q → R (.inl (some (.int z))) hp) : xK d 241 [.ref 66, .int k] hp R := by
  subst hY
  refine k_byte hH (by omega) (fun z h => hR z ?_)
  unfold rB
  rcases h with ⟨h1, h2⟩ | ⟨h1, h2, -⟩
  · rw [if_neg (by omega)]; exact h1
  · rw [if_pos (by omega), h1]; congr 1; omega
/-- the reference's token at s -/
def rT (hp : amH) (y : tY) (s : Nat) : Prop := rN hp 66 27 = (s : Int) ∧ rN hp 66 26 = ((tE y s : Nat) : Int) ∧ rN hp 66 29 = tK y s ∧ (tK y s = 2 → tE y s ≤ s + 2 → rN hp 66 28 = tV y s)
theorem m242a {d : Nat} {hp0 : amH} {R : xQ} {y : tY} {p s : Nat} (hok : tOk (rN hp0 66 21).toNat y) (he : tS y p = s) (hQ : ∀ hp, bHk 84 bTT hp → bFr wAdv hp0 hp → rB hp = y → rN hp 66 26 = (s : Int) → (s : Int) ≤ rN hp 66 21 → xV (d + 1) am_m242 39 [some (.ref 66)] [] hp R) :
    ∀ (jj q : Nat) (hp : amH), bHk 84 bTT hp → bFr wAdv hp0 hp → rB hp = y → rN hp 66 26 = (q : Int) → p ≤ q → (∀ k, p ≤ k → k < q → tSp y k = true) → (q : Int) + (jj : Int) = rN hp0 66 21 → xV (d + 1) am_m242 0 [some (.ref 66)] [] hp R := by
  intro jj
  induction jj using Nat.strongRecOn with
  | ind jj ih =>
    intro q hp hH hF Y h4 hsq hall hj
    have b0 := b21 hH
    have n0 : rN hp 66 21 = rN hp0 66 21 := r_fr hF rfl
    have fin : tSp y q = false → xV (d + 1) am_m242 39 [some (.ref 66)] [] hp R := fun g => by
      have eq : s = q := by rw [← he]; exact tR_eq 601 p q hsq (by omega) hall (fun _ => g)
      subst eq
      exact hQ hp hH hF Y h4 (by omega)
    refine xald 1 ⟨u242, _, rfl⟩ rfl rfl ?_
    refine xald 2 ⟨u242, _, rfl⟩ rfl rfl ?_
    refine xgetI 5 hH ⟨u242, _, rfl⟩ rfl rfl (fun z2 h2 => ?_)
    refine xcall 8 [.ref 66, .int _] [] hH ⟨u242, _, rfl⟩ rfl rfl rfl rfl rfl (k_rB hH Y (q := q) (by omega) (fun z5 h5 => ⟨_, rfl, ?_⟩))
    refine xbip 10 (32) ⟨u242, _, rfl⟩ rfl (by decide) (fun z8 h8 => ?_)
    refine xcmp_eq 13 ⟨u242, _, rfl⟩ rfl (fun c10 => ?_) (fun c10 => ?_)
    · have bq : (q : Int) < rN hp0 66 21 := by have := tSp_n hok q (decide_eq_true (by omega)); omega
      refine xald 27 ⟨u242, _, rfl⟩ rfl rfl ?_
      refine xdup 28 ⟨u242, _, rfl⟩ rfl rfl ?_
      refine xgetI 31 hH ⟨u242, _, rfl⟩ rfl rfl (fun z28 h28 => ?_)
      refine xcst 32 (1) ⟨u242, _, rfl⟩ rfl (by decide) (fun z31 h31 => ?_)
      refine xadd 33 _ ⟨u242, _, rfl⟩ rfl rfl (by omega) (by omega) (fun z32 h32 => ?_)
      refine xputI 36 hH ⟨u242, _, rfl⟩ rfl rfl ⟨rfl, rfl⟩ (by omega) (by omega) (fun hp33 hH33 U33 => ?_)
      have s33 := U33.1
      have n33_66_21 : rN hp33 (66) 21 = rN hp (66) 21 := rU_ne U33 (by omega)
      have n33_66_27 : rN hp33 (66) 27 = rN hp (66) 27 := rU_ne U33 (by omega)
      have n33_66_28 : rN hp33 (66) 28 = rN hp (66) 28 := rU_ne U33 (by omega)
      have n33_66_29 : rN hp33 (66) 29 = rN hp (66) 29 := rU_ne U33 (by omega)
      refine xgoto ⟨u242, _, rfl⟩ ?_
      have hd : tSp y q = true := decide_eq_true (by omega)
      have := tSp_n hok q hd
      exact ih (jj - 1) (by omega) (q + 1) hp33 hH33 (hF.trans (rU_fr U33 (by decide))) ((rB_U U33 (by decide)).trans Y) (by omega) (by omega) (fun k k1 k2 => by rcases Nat.lt_or_ge k q with g | g; exact hall k k1 g; rw [show k = q by omega]; exact hd) (by omega)
    · refine xald 14 ⟨u242, _, rfl⟩ rfl rfl ?_
      refine xald 15 ⟨u242, _, rfl⟩ rfl rfl ?_
      refine xgetI 18 hH ⟨u242, _, rfl⟩ rfl rfl (fun z15 h15 => ?_)
      refine xcall 21 [.ref 66, .int _] [] hH ⟨u242, _, rfl⟩ rfl rfl rfl rfl rfl (k_rB hH Y (q := q) (by omega) (fun z18 h18 => ⟨_, rfl, ?_⟩))
      refine xbip 23 (10) ⟨u242, _, rfl⟩ rfl (by decide) (fun z21 h21 => ?_)
      refine xcmp_ne 26 ⟨u242, _, rfl⟩ rfl (fun c23 => ?_) (fun c23 => ?_)
      · exact fin (decide_eq_false (by omega))
      · have bq : (q : Int) < rN hp0 66 21 := by have := tSp_n hok q (decide_eq_true (by omega)); omega
        refine xald 27 ⟨u242, _, rfl⟩ rfl rfl ?_
        refine xdup 28 ⟨u242, _, rfl⟩ rfl rfl ?_
        refine xgetI 31 hH ⟨u242, _, rfl⟩ rfl rfl (fun z28 h28 => ?_)
        refine xcst 32 (1) ⟨u242, _, rfl⟩ rfl (by decide) (fun z31 h31 => ?_)
        refine xadd 33 _ ⟨u242, _, rfl⟩ rfl rfl (by omega) (by omega) (fun z32 h32 => ?_)
        refine xputI 36 hH ⟨u242, _, rfl⟩ rfl rfl ⟨rfl, rfl⟩ (by omega) (by omega) (fun hp33 hH33 U33 => ?_)
        have s33 := U33.1
        have n33_66_21 : rN hp33 (66) 21 = rN hp (66) 21 := rU_ne U33 (by omega)
        have n33_66_27 : rN hp33 (66) 27 = rN hp (66) 27 := rU_ne U33 (by omega)
        have n33_66_28 : rN hp33 (66) 28 = rN hp (66) 28 := rU_ne U33 (by omega)
        have n33_66_29 : rN hp33 (66) 29 = rN hp (66) 29 := rU_ne U33 (by omega)
        refine xgoto ⟨u242, _, rfl⟩ ?_
        have hd : tSp y q = true := decide_eq_true (by omega)
        have := tSp_n hok q hd
        exact ih (jj - 1) (by omega) (q + 1) hp33 hH33 (hF.trans (rU_fr U33 (by decide))) ((rB_U U33 (by decide)).trans Y) (by omega) (by omega) (fun k k1 k2 => by rcases Nat.lt_or_ge k q with g | g; exact hall k k1 g; rw [show k = q by omega]; exact hd) (by omega)
theorem m242b {d : Nat} {hp0 : amH} {R : xQ} {y : tY} {s e : Nat} {c : Int32} (hok : tOk (rN hp0 66 21).toNat y) (he : tR (tLt y) 601 s = e)
    (hR : ∀ hp1, bHk 84 bTT hp1 → bFr wAdv hp0 hp1 → rN hp1 66 26 = (e : Int) → rN hp1 66 29 = 1 → rN hp1 66 27 = (s : Int) → R (.inl none) hp1) :
    ∀ (jj q : Nat) (hp : amH), bHk 84 bTT hp → bFr wAdv hp0 hp → rB hp = y → rN hp 66 26 = (q : Int) → rN hp 66 29 = 1 → rN hp 66 27 = (s : Int) → s ≤ q → (∀ k, s ≤ k → k < q → tLt y k = true) → (q : Int) + (jj : Int) = rN hp0 66 21 → xV (d + 1) am_m242 90 [some (.ref 66), some (.int c)] [] hp R := by
  intro jj
  induction jj using Nat.strongRecOn with
  | ind jj ih =>
    intro q hp hH hF Y h4 h5 h6 hsq hall hj
    have b0 := b21 hH
    have n0 : rN hp 66 21 = rN hp0 66 21 := r_fr hF rfl
    refine xald 91 ⟨u242, _, rfl⟩ rfl rfl ?_
    refine xald 92 ⟨u242, _, rfl⟩ rfl rfl ?_
    refine xgetI 95 hH ⟨u242, _, rfl⟩ rfl rfl (fun z92 h92 => ?_)
    refine xcall 98 [.ref 66, .int _] [] hH ⟨u242, _, rfl⟩ rfl rfl rfl rfl rfl (k_rB hH Y (q := q) (by omega) (fun z95 h95 => ⟨_, rfl, ?_⟩))
    refine xbip 100 (97) ⟨u242, _, rfl⟩ rfl (by decide) (fun z98 h98 => ?_)
    refine xbip 102 (122) ⟨u242, _, rfl⟩ rfl (by decide) (fun z100 h100 => ?_)
    refine xcallS 105 [.int _, .int _, .int _] [] hH ⟨u242, _, rfl⟩ rfl rfl rfl rfl rfl (k_inr (fun z102 h102 => ⟨_, rfl, ?_⟩))
    refine xif_eq 108 ⟨u242, _, rfl⟩ rfl (fun c105 => ?_) (fun c105 => ?_)
    · have eq : e = q := by rw [← he]; exact tR_eq 601 s q hsq (by omega) hall (fun _ => decide_eq_false (by omega))
      exact xretV ⟨u242, _, rfl⟩ rfl (hR hp hH hF (by omega) h5 h6)
    · have hd : tLt y q = true := decide_eq_true (by omega)
      have bq := tLt_n hok q hd
      refine xald 109 ⟨u242, _, rfl⟩ rfl rfl ?_
      refine xdup 110 ⟨u242, _, rfl⟩ rfl rfl ?_
      refine xgetI 113 hH ⟨u242, _, rfl⟩ rfl rfl (fun z110 h110 => ?_)
      refine xcst 114 (1) ⟨u242, _, rfl⟩ rfl (by decide) (fun z113 h113 => ?_)
      refine xadd 115 _ ⟨u242, _, rfl⟩ rfl rfl (by omega) (by omega) (fun z114 h114 => ?_)
      refine xputI 118 hH ⟨u242, _, rfl⟩ rfl rfl ⟨rfl, rfl⟩ (by omega) (by omega) (fun hp115 hH115 U115 => ?_)
      have s115 := U115.1
      have n115_66_21 : rN hp115 (66) 21 = rN hp (66) 21 := rU_ne U115 (by omega)
      have n115_66_27 : rN hp115 (66) 27 = rN hp (66) 27 := rU_ne U115 (by omega)
      have n115_66_28 : rN hp115 (66) 28 = rN hp (66) 28 := rU_ne U115 (by omega)
      have n115_66_29 : rN hp115 (66) 29 = rN hp (66) 29 := rU_ne U115 (by omega)
      refine xgoto ⟨u242, _, rfl⟩ ?_
      exact ih (jj - 1) (by omega) (q + 1) hp115 hH115 (hF.trans (rU_fr U115 (by decide))) ((rB_U U115 (by decide)).trans Y) (by omega) (by omega) (by omega) (by omega) (fun k k1 k2 => by rcases Nat.lt_or_ge k q with g | g; exact hall k k1 g; rw [show k = q by omega]; exact hd) (by omega)
theorem nV_b {y : tY} {s q : Nat} {v : Int} (hall : ∀ k, s ≤ k → k < q → tDg y k = true) (hsq : s ≤ q) (hv : nV y s q v) : -1000 ≤ v ∧ v ≤ 1000 ∨ s + 2 ≤ q := by
  rcases Nat.lt_or_ge q (s + 2) with g | g
  · left
    by_cases e : q = s
    · have := hv.1 e; omega
    · have := hv.2.1 (by omega)
      have g2 := of_decide_eq_true (hall s (Nat.le_refl _) (by omega))
      omega
  · exact Or.inr g
theorem m242c {d : Nat} {hp0 : amH} {R : xQ} {y : tY} {s e : Nat} {c : Int32} (hok : tOk (rN hp0 66 21).toNat y) (he : tR (tDg y) 601 s = e)
    (hR : ∀ hp1, bHk 84 bTT hp1 → bFr wAdv hp0 hp1 → rN hp1 66 26 = (e : Int) → rN hp1 66 29 = 2 → rN hp1 66 27 = (s : Int) → nV y s e (rN hp1 66 28) → R (.inl none) hp1) :
    ∀ (jj q : Nat) (hp : amH), bHk 84 bTT hp → bFr wAdv hp0 hp → rB hp = y → rN hp 66 26 = (q : Int) → rN hp 66 29 = 2 → rN hp 66 27 = (s : Int) → s ≤ q → (∀ k, s ≤ k → k < q → tDg y k = true) → nV y s q (rN hp 66 28) → (q : Int) + (jj : Int) = rN hp0 66 21 → xV (d + 1) am_m242 137 [some (.ref 66), some (.int c)] [] hp R := by
  intro jj
  induction jj using Nat.strongRecOn with
  | ind jj ih =>
    intro q hp hH hF Y h4 h5 h6 hsq hall hv hj
    have b0 := b21 hH
    have n0 : rN hp 66 21 = rN hp0 66 21 := r_fr hF rfl
    refine xald 138 ⟨u242, _, rfl⟩ rfl rfl ?_
    refine xald 139 ⟨u242, _, rfl⟩ rfl rfl ?_
    refine xgetI 142 hH ⟨u242, _, rfl⟩ rfl rfl (fun z139 h139 => ?_)
    refine xcall 145 [.ref 66, .int _] [] hH ⟨u242, _, rfl⟩ rfl rfl rfl rfl rfl (k_rB hH Y (q := q) (by omega) (fun z142 h142 => ⟨_, rfl, ?_⟩))
    refine xbip 147 (48) ⟨u242, _, rfl⟩ rfl (by decide) (fun z145 h145 => ?_)
    refine xbip 149 (57) ⟨u242, _, rfl⟩ rfl (by decide) (fun z147 h147 => ?_)
    refine xcallS 152 [.int _, .int _, .int _] [] hH ⟨u242, _, rfl⟩ rfl rfl rfl rfl rfl (k_inr (fun z149 h149 => ⟨_, rfl, ?_⟩))
    refine xif_eq 155 ⟨u242, _, rfl⟩ rfl (fun c152 => ?_) (fun c152 => ?_)
    · have eq : e = q := by rw [← he]; exact tR_eq 601 s q hsq (by omega) hall (fun _ => decide_eq_false (by omega))
      exact xretV ⟨u242, _, rfl⟩ rfl (hR hp hH hF (by omega) h5 h6 (by rw [eq]; exact hv))
    · have hd : tDg y q = true := decide_eq_true (by omega)
      have bq := tDg_n hok q hd
      have vb : -1000 ≤ rN hp 66 28 ∧ rN hp 66 28 ≤ 1000 ∨ s + 2 ≤ q := nV_b hall hsq hv
      refine xald 156 ⟨u242, _, rfl⟩ rfl rfl ?_
      refine xgetI 159 hH ⟨u242, _, rfl⟩ rfl rfl (fun z156 h156 => ?_)
      refine xald 160 ⟨u242, _, rfl⟩ rfl rfl ?_
      refine xgetI 163 hH ⟨u242, _, rfl⟩ rfl rfl (fun z160 h160 => ?_)
      refine xsub 164 _ ⟨u242, _, rfl⟩ rfl rfl (by omega) (by omega) (fun z163 h163 => ?_)
      refine xcst 165 (2) ⟨u242, _, rfl⟩ rfl (by decide) (fun z164 h164 => ?_)
      refine xcmp_ge 168 ⟨u242, _, rfl⟩ rfl (fun c165 => ?_) (fun c165 => ?_)
      · refine xald 192 ⟨u242, _, rfl⟩ rfl rfl ?_
        refine xdup 193 ⟨u242, _, rfl⟩ rfl rfl ?_
        refine xgetI 196 hH ⟨u242, _, rfl⟩ rfl rfl (fun z193 h193 => ?_)
        refine xcst 197 (1) ⟨u242, _, rfl⟩ rfl (by decide) (fun z196 h196 => ?_)
        refine xadd 198 _ ⟨u242, _, rfl⟩ rfl rfl (by omega) (by omega) (fun z197 h197 => ?_)
        refine xputI 201 hH ⟨u242, _, rfl⟩ rfl rfl ⟨rfl, rfl⟩ (by omega) (by omega) (fun hp198 hH198 U198 => ?_)
        have s198 := U198.1
        have n198_66_21 : rN hp198 (66) 21 = rN hp (66) 21 := rU_ne U198 (by omega)
        have n198_66_27 : rN hp198 (66) 27 = rN hp (66) 27 := rU_ne U198 (by omega)
        have n198_66_28 : rN hp198 (66) 28 = rN hp (66) 28 := rU_ne U198 (by omega)
        have n198_66_29 : rN hp198 (66) 29 = rN hp (66) 29 := rU_ne U198 (by omega)
        refine xgoto ⟨u242, _, rfl⟩ ?_
        exact ih (jj - 1) (by omega) (q + 1) hp198 hH198 (hF.trans (rU_fr U198 (by decide))) ((rB_U U198 (by decide)).trans Y) (by omega) (by omega) (by omega) (by omega) (fun k k1 k2 => by rcases Nat.lt_or_ge k q with g | g; exact hall k k1 g; rw [show k = q by omega]; exact hd) ⟨fun e => by omega, fun e => by omega, fun e => by omega⟩ (by omega)
      · refine xald 169 ⟨u242, _, rfl⟩ rfl rfl ?_
        refine xbip 171 (10) ⟨u242, _, rfl⟩ rfl (by decide) (fun z169 h169 => ?_)
        refine xald 172 ⟨u242, _, rfl⟩ rfl rfl ?_
        refine xgetI 175 hH ⟨u242, _, rfl⟩ rfl rfl (fun z172 h172 => ?_)
        refine xmul 176 (10 * Int32.toInt z172) ⟨u242, _, rfl⟩ rfl (by rw [h169]) (by omega) (by omega) (fun z175 h175 => ?_)
        refine xald 177 ⟨u242, _, rfl⟩ rfl rfl ?_
        refine xald 178 ⟨u242, _, rfl⟩ rfl rfl ?_
        refine xgetI 181 hH ⟨u242, _, rfl⟩ rfl rfl (fun z178 h178 => ?_)
        refine xcall 184 [.ref 66, .int _] [.int _, .ref 66] hH ⟨u242, _, rfl⟩ rfl rfl rfl rfl rfl (k_rB hH Y (q := q) (by omega) (fun z181 h181 => ⟨_, rfl, ?_⟩))
        refine xadd 185 _ ⟨u242, _, rfl⟩ rfl rfl (by omega) (by omega) (fun z184 h184 => ?_)
        refine xbip 187 (48) ⟨u242, _, rfl⟩ rfl (by decide) (fun z185 h185 => ?_)
        refine xsub 188 _ ⟨u242, _, rfl⟩ rfl rfl (by omega) (by omega) (fun z187 h187 => ?_)
        refine xputI 191 hH ⟨u242, _, rfl⟩ rfl rfl ⟨rfl, rfl⟩ (by omega) (by omega) (fun hp188 hH188 U188 => ?_)
        have s188 := U188.1
        have n188_66_21 : rN hp188 (66) 21 = rN hp (66) 21 := rU_ne U188 (by omega)
        have n188_66_26 : rN hp188 (66) 26 = rN hp (66) 26 := rU_ne U188 (by omega)
        have n188_66_27 : rN hp188 (66) 27 = rN hp (66) 27 := rU_ne U188 (by omega)
        have n188_66_29 : rN hp188 (66) 29 = rN hp (66) 29 := rU_ne U188 (by omega)
        refine xald 192 ⟨u242, _, rfl⟩ rfl rfl ?_
        refine xdup 193 ⟨u242, _, rfl⟩ rfl rfl ?_
        refine xgetI 196 hH188 ⟨u242, _, rfl⟩ rfl rfl (fun z193 h193 => ?_)
        refine xcst 197 (1) ⟨u242, _, rfl⟩ rfl (by decide) (fun z196 h196 => ?_)
        refine xadd 198 _ ⟨u242, _, rfl⟩ rfl rfl (by omega) (by omega) (fun z197 h197 => ?_)
        refine xputI 201 hH188 ⟨u242, _, rfl⟩ rfl rfl ⟨rfl, rfl⟩ (by omega) (by omega) (fun hp198 hH198 U198 => ?_)
        have s198 := U198.1
        have n198_66_21 : rN hp198 (66) 21 = rN hp188 (66) 21 := rU_ne U198 (by omega)
        have n198_66_27 : rN hp198 (66) 27 = rN hp188 (66) 27 := rU_ne U198 (by omega)
        have n198_66_28 : rN hp198 (66) 28 = rN hp188 (66) 28 := rU_ne U198 (by omega)
        have n198_66_29 : rN hp198 (66) 29 = rN hp188 (66) 29 := rU_ne U198 (by omega)
        refine xgoto ⟨u242, _, rfl⟩ ?_
        exact ih (jj - 1) (by omega) (q + 1) hp198 hH198 ((hF.trans (rU_fr U188 (by decide))).trans (rU_fr U198 (by decide))) ((rB_U U198 (by decide)).trans ((rB_U U188 (by decide)).trans Y)) (by omega) (by omega) (by omega) (by omega) (fun k k1 k2 => by rcases Nat.lt_or_ge k q with g | g; exact hall k k1 g; rw [show k = q by omega]; exact hd) (nV_step hall hd hv hsq (fun g1 g2 => by omega)) (by omega)
theorem rT_0 {hp : amH} {y : tY} {s : Nat} (h1 : y s = -1) (h2 : rN hp 66 27 = (s : Int)) (h3 : rN hp 66 26 = (s : Int)) (h4 : rN hp 66 29 = 0) : rT hp y s := by
  have k : tK y s = 0 := tK_0.mpr h1
  have e : tE y s = s := by unfold tE; rw [if_pos h1]
  exact ⟨h2, by rw [e]; exact h3, by rw [k]; exact h4, fun z => by omega⟩
theorem rT_1 {hp : amH} {y : tY} {s : Nat} (h1 : ¬ y s = -1) (h2 : tLt y s = true) (h3 : rN hp 66 26 = ((tR (tLt y) 601 s : Nat) : Int)) (h4 : rN hp 66 29 = 1) (h5 : rN hp 66 27 = (s : Int)) : rT hp y s := by
  have k : tK y s = 1 := by unfold tK; rw [if_neg h1, if_pos h2]
  have e : tE y s = tR (tLt y) 601 s := by unfold tE; rw [if_neg h1, if_pos h2]
  exact ⟨h5, by rw [e]; exact h3, by rw [k]; exact h4, fun z => by omega⟩
theorem rT_2 {hp : amH} {y : tY} {s : Nat} (h1 : ¬ y s = -1) (h2 : tLt y s = false) (h2b : tDg y s = true) (h3 : rN hp 66 26 = ((tR (tDg y) 601 s : Nat) : Int)) (h4 : rN hp 66 29 = 2) (h5 : rN hp 66 27 = (s : Int)) (h6 : nV y s (tR (tDg y) 601 s) (rN hp 66 28)) : rT hp y s := by
  have k : tK y s = 2 := by unfold tK; rw [if_neg h1, if_neg (by rw [h2]; decide), if_pos h2b]
  have e : tE y s = tR (tDg y) 601 s := by unfold tE; rw [if_neg h1, if_neg (by rw [h2]; decide), if_pos h2b]
  rw [← e] at h3 h6
  have hgt : s < tE y s := by rw [e]; exact tR_lt h2b
  refine ⟨h5, h3, by rw [k]; exact h4, fun _ z => ?_⟩
  unfold tV
  by_cases g : tE y s = s + 1
  · rw [if_pos g]
    exact h6.2.1 g
  · rw [if_neg g]
    exact h6.2.2 (by omega)
theorem rT_3 {hp : amH} {y : tY} {s : Nat} (h1 : ¬ y s = -1) (h2 : tLt y s = false) (h2b : tDg y s = false) (h5 : rN hp 66 27 = (s : Int)) (h3 : rN hp 66 26 = (s : Int) + 1) (h4 : rN hp 66 29 = (if y s = 59 then 3 else 4)) : rT hp y s := by
  have k : tK y s = (if y s = 59 then 3 else 4) := by unfold tK; rw [if_neg h1, if_neg (by rw [h2]; decide), if_neg (by rw [h2b]; decide)]
  have e : tE y s = s + 1 := by unfold tE; rw [if_neg h1, if_neg (by rw [h2]; decide), if_neg (by rw [h2b]; decide)]
  have k2 : ¬ tK y s = 2 := by rw [k]; split <;> decide
  exact ⟨h5, by rw [e]; omega, by rw [k]; exact h4, fun z => absurd z k2⟩
theorem n242 {d : Nat} {hp0 hp : amH} {R : xQ} {y : tY} {s : Nat} (hok : tOk (rN hp0 66 21).toNat y) (hR : ∀ hp1, bHk 84 bTT hp1 → bFr wAdv hp0 hp1 → rT hp1 y s → R (.inl none) hp1) (hH : bHk 84 bTT hp) (hF : bFr wAdv hp0 hp) (Y : rB hp = y) (h4 : rN hp 66 26 = (s : Int)) (hs : (s : Int) ≤ rN hp 66 21) : xV (d + 1) am_m242 39 [some (.ref 66)] [] hp R := by
  have b0 := b21 hH
  have n0 : rN hp 66 21 = rN hp0 66 21 := r_fr hF rfl
  refine xald 40 ⟨u242, _, rfl⟩ rfl rfl ?_
  refine xald 41 ⟨u242, _, rfl⟩ rfl rfl ?_
  refine xgetI 44 hH ⟨u242, _, rfl⟩ rfl rfl (fun z41 h41 => ?_)
  refine xputI 47 hH ⟨u242, _, rfl⟩ rfl rfl ⟨rfl, rfl⟩ (by omega) (by omega) (fun hp44 hH44 U44 => ?_)
  have s44 := U44.1
  have n44_66_21 : rN hp44 (66) 21 = rN hp (66) 21 := rU_ne U44 (by omega)
  have n44_66_26 : rN hp44 (66) 26 = rN hp (66) 26 := rU_ne U44 (by omega)
  have n44_66_28 : rN hp44 (66) 28 = rN hp (66) 28 := rU_ne U44 (by omega)
  have n44_66_29 : rN hp44 (66) 29 = rN hp (66) 29 := rU_ne U44 (by omega)
  refine xald 48 ⟨u242, _, rfl⟩ rfl rfl ?_
  refine xald 49 ⟨u242, _, rfl⟩ rfl rfl ?_
  refine xgetI 52 hH44 ⟨u242, _, rfl⟩ rfl rfl (fun z49 h49 => ?_)
  refine xcall 55 [.ref 66, .int _] [] hH44 ⟨u242, _, rfl⟩ rfl rfl rfl rfl rfl (k_rB hH44 ((rB_U U44 (by decide)).trans Y) (q := s) (by omega) (fun z52 h52 => ⟨_, rfl, ?_⟩))
  refine xist 56 ⟨u242, _, rfl⟩ rfl rfl ?_
  refine xald 57 ⟨u242, _, rfl⟩ rfl rfl ?_
  refine xcst 58 (0) ⟨u242, _, rfl⟩ rfl (by decide) (fun z57 h57 => ?_)
  refine xputI 61 hH44 ⟨u242, _, rfl⟩ rfl rfl ⟨rfl, rfl⟩ (by omega) (by omega) (fun hp58 hH58 U58 => ?_)
  have s58 := U58.1
  have n58_66_21 : rN hp58 (66) 21 = rN hp44 (66) 21 := rU_ne U58 (by omega)
  have n58_66_26 : rN hp58 (66) 26 = rN hp44 (66) 26 := rU_ne U58 (by omega)
  have n58_66_27 : rN hp58 (66) 27 = rN hp44 (66) 27 := rU_ne U58 (by omega)
  have n58_66_29 : rN hp58 (66) 29 = rN hp44 (66) 29 := rU_ne U58 (by omega)
  refine xild 62 ⟨u242, _, rfl⟩ rfl rfl ?_
  refine xcst 63 (-1) ⟨u242, _, rfl⟩ rfl (by decide) (fun z62 h62 => ?_)
  refine xcmp_ne 66 ⟨u242, _, rfl⟩ rfl (fun c63 => ?_) (fun c63 => ?_)
  · have bq : (s : Int) < rN hp0 66 21 := by rcases Nat.lt_or_ge s (rN hp0 66 21).toNat with g | g; omega; have := hok.2.2 s g; omega
    refine xild 75 ⟨u242, _, rfl⟩ rfl rfl ?_
    refine xbip 77 (97) ⟨u242, _, rfl⟩ rfl (by decide) (fun z75 h75 => ?_)
    refine xbip 79 (122) ⟨u242, _, rfl⟩ rfl (by decide) (fun z77 h77 => ?_)
    refine xcallS 82 [.int _, .int _, .int _] [] hH58 ⟨u242, _, rfl⟩ rfl rfl rfl rfl rfl (k_inr (fun z79 h79 => ⟨_, rfl, ?_⟩))
    refine xif_eq 85 ⟨u242, _, rfl⟩ rfl (fun c82 => ?_) (fun c82 => ?_)
    · have nl : tLt y s = false := decide_eq_false (by omega)
      refine xild 122 ⟨u242, _, rfl⟩ rfl rfl ?_
      refine xbip 124 (48) ⟨u242, _, rfl⟩ rfl (by decide) (fun z122 h122 => ?_)
      refine xbip 126 (57) ⟨u242, _, rfl⟩ rfl (by decide) (fun z124 h124 => ?_)
      refine xcallS 129 [.int _, .int _, .int _] [] hH58 ⟨u242, _, rfl⟩ rfl rfl rfl rfl rfl (k_inr (fun z126 h126 => ⟨_, rfl, ?_⟩))
      refine xif_eq 132 ⟨u242, _, rfl⟩ rfl (fun c129 => ?_) (fun c129 => ?_)
      · have nd : tDg y s = false := decide_eq_false (by omega)
        refine xald 205 ⟨u242, _, rfl⟩ rfl rfl ?_
        refine xild 206 ⟨u242, _, rfl⟩ rfl rfl ?_
        refine xbip 208 (59) ⟨u242, _, rfl⟩ rfl (by decide) (fun z206 h206 => ?_)
        refine xcmp_ne 211 ⟨u242, _, rfl⟩ rfl (fun c208 => ?_) (fun c208 => ?_)
        · refine xcst 216 (4) ⟨u242, _, rfl⟩ rfl (by decide) (fun z215 h215 => ?_)
          refine xputI 219 hH58 ⟨u242, _, rfl⟩ rfl rfl ⟨rfl, rfl⟩ (by omega) (by omega) (fun hp216 hH216 U216 => ?_)
          have s216 := U216.1
          have n216_66_21 : rN hp216 (66) 21 = rN hp58 (66) 21 := rU_ne U216 (by omega)
          have n216_66_26 : rN hp216 (66) 26 = rN hp58 (66) 26 := rU_ne U216 (by omega)
          have n216_66_27 : rN hp216 (66) 27 = rN hp58 (66) 27 := rU_ne U216 (by omega)
          have n216_66_28 : rN hp216 (66) 28 = rN hp58 (66) 28 := rU_ne U216 (by omega)
          refine xald 220 ⟨u242, _, rfl⟩ rfl rfl ?_
          refine xdup 221 ⟨u242, _, rfl⟩ rfl rfl ?_
          refine xgetI 224 hH216 ⟨u242, _, rfl⟩ rfl rfl (fun z221 h221 => ?_)
          refine xcst 225 (1) ⟨u242, _, rfl⟩ rfl (by decide) (fun z224 h224 => ?_)
          refine xadd 226 _ ⟨u242, _, rfl⟩ rfl rfl (by omega) (by omega) (fun z225 h225 => ?_)
          refine xputI 229 hH216 ⟨u242, _, rfl⟩ rfl rfl ⟨rfl, rfl⟩ (by omega) (by omega) (fun hp226 hH226 U226 => ?_)
          have s226 := U226.1
          have n226_66_21 : rN hp226 (66) 21 = rN hp216 (66) 21 := rU_ne U226 (by omega)
          have n226_66_27 : rN hp226 (66) 27 = rN hp216 (66) 27 := rU_ne U226 (by omega)
          have n226_66_28 : rN hp226 (66) 28 = rN hp216 (66) 28 := rU_ne U226 (by omega)
          have n226_66_29 : rN hp226 (66) 29 = rN hp216 (66) 29 := rU_ne U226 (by omega)
          exact xretV ⟨u242, _, rfl⟩ rfl (hR hp226 hH226 ((((hF.trans (rU_fr U44 (by decide))).trans (rU_fr U58 (by decide))).trans (rU_fr U216 (by decide))).trans (rU_fr U226 (by decide))) (rT_3 (by omega) nl nd (by omega) (by omega) (by rw [if_neg (by omega)]; omega)))
        · refine xcst 212 (3) ⟨u242, _, rfl⟩ rfl (by decide) (fun z211 h211 => ?_)
          refine xgoto ⟨u242, _, rfl⟩ ?_
          refine xputI 219 hH58 ⟨u242, _, rfl⟩ rfl rfl ⟨rfl, rfl⟩ (by omega) (by omega) (fun hp216 hH216 U216 => ?_)
          have s216 := U216.1
          have n216_66_21 : rN hp216 (66) 21 = rN hp58 (66) 21 := rU_ne U216 (by omega)
          have n216_66_26 : rN hp216 (66) 26 = rN hp58 (66) 26 := rU_ne U216 (by omega)
          have n216_66_27 : rN hp216 (66) 27 = rN hp58 (66) 27 := rU_ne U216 (by omega)
          have n216_66_28 : rN hp216 (66) 28 = rN hp58 (66) 28 := rU_ne U216 (by omega)
          refine xald 220 ⟨u242, _, rfl⟩ rfl rfl ?_
          refine xdup 221 ⟨u242, _, rfl⟩ rfl rfl ?_
          refine xgetI 224 hH216 ⟨u242, _, rfl⟩ rfl rfl (fun z221 h221 => ?_)
          refine xcst 225 (1) ⟨u242, _, rfl⟩ rfl (by decide) (fun z224 h224 => ?_)
          refine xadd 226 _ ⟨u242, _, rfl⟩ rfl rfl (by omega) (by omega) (fun z225 h225 => ?_)
          refine xputI 229 hH216 ⟨u242, _, rfl⟩ rfl rfl ⟨rfl, rfl⟩ (by omega) (by omega) (fun hp226 hH226 U226 => ?_)
          have s226 := U226.1
          have n226_66_21 : rN hp226 (66) 21 = rN hp216 (66) 21 := rU_ne U226 (by omega)
          have n226_66_27 : rN hp226 (66) 27 = rN hp216 (66) 27 := rU_ne U226 (by omega)
          have n226_66_28 : rN hp226 (66) 28 = rN hp216 (66) 28 := rU_ne U226 (by omega)
          have n226_66_29 : rN hp226 (66) 29 = rN hp216 (66) 29 := rU_ne U226 (by omega)
          exact xretV ⟨u242, _, rfl⟩ rfl (hR hp226 hH226 ((((hF.trans (rU_fr U44 (by decide))).trans (rU_fr U58 (by decide))).trans (rU_fr U216 (by decide))).trans (rU_fr U226 (by decide))) (rT_3 (by omega) nl nd (by omega) (by omega) (by rw [if_pos (by omega)]; omega)))
      · have yd : tDg y s = true := decide_eq_true (by omega)
        refine xald 133 ⟨u242, _, rfl⟩ rfl rfl ?_
        refine xcst 134 (2) ⟨u242, _, rfl⟩ rfl (by decide) (fun z133 h133 => ?_)
        refine xputI 137 hH58 ⟨u242, _, rfl⟩ rfl rfl ⟨rfl, rfl⟩ (by omega) (by omega) (fun hp134 hH134 U134 => ?_)
        have s134 := U134.1
        have n134_66_21 : rN hp134 (66) 21 = rN hp58 (66) 21 := rU_ne U134 (by omega)
        have n134_66_26 : rN hp134 (66) 26 = rN hp58 (66) 26 := rU_ne U134 (by omega)
        have n134_66_27 : rN hp134 (66) 27 = rN hp58 (66) 27 := rU_ne U134 (by omega)
        have n134_66_28 : rN hp134 (66) 28 = rN hp58 (66) 28 := rU_ne U134 (by omega)
        exact m242c hok rfl (fun hp1 g1 g2 g3 g4 g5 g6 => hR hp1 g1 g2 (rT_2 (by omega) nl yd g3 g4 g5 g6)) (rN hp0 66 21 - s).toNat s hp134 hH134 (((hF.trans (rU_fr U44 (by decide))).trans (rU_fr U58 (by decide))).trans (rU_fr U134 (by decide))) ((rB_U U134 (by decide)).trans ((rB_U U58 (by decide)).trans ((rB_U U44 (by decide)).trans Y))) (by omega) (by omega) (by omega) (Nat.le_refl _) (fun k k1 k2 => by omega) ⟨fun _ => by omega, fun e => by omega, fun e => by omega⟩ (by omega)
    · have yl : tLt y s = true := decide_eq_true (by omega)
      refine xald 86 ⟨u242, _, rfl⟩ rfl rfl ?_
      refine xcst 87 (1) ⟨u242, _, rfl⟩ rfl (by decide) (fun z86 h86 => ?_)
      refine xputI 90 hH58 ⟨u242, _, rfl⟩ rfl rfl ⟨rfl, rfl⟩ (by omega) (by omega) (fun hp87 hH87 U87 => ?_)
      have s87 := U87.1
      have n87_66_21 : rN hp87 (66) 21 = rN hp58 (66) 21 := rU_ne U87 (by omega)
      have n87_66_26 : rN hp87 (66) 26 = rN hp58 (66) 26 := rU_ne U87 (by omega)
      have n87_66_27 : rN hp87 (66) 27 = rN hp58 (66) 27 := rU_ne U87 (by omega)
      have n87_66_28 : rN hp87 (66) 28 = rN hp58 (66) 28 := rU_ne U87 (by omega)
      exact m242b hok rfl (fun hp1 g1 g2 g3 g4 g5 => hR hp1 g1 g2 (rT_1 (by omega) yl g3 g4 g5)) (rN hp0 66 21 - s).toNat s hp87 hH87 (((hF.trans (rU_fr U44 (by decide))).trans (rU_fr U58 (by decide))).trans (rU_fr U87 (by decide))) ((rB_U U87 (by decide)).trans ((rB_U U58 (by decide)).trans ((rB_U U44 (by decide)).trans Y))) (by omega) (by omega) (by omega) (Nat.le_refl _) (fun k k1 k2 => by omega) (by omega)
  · refine xald 67 ⟨u242, _, rfl⟩ rfl rfl ?_
    refine xcst 68 (0) ⟨u242, _, rfl⟩ rfl (by decide) (fun z67 h67 => ?_)
    refine xputI 71 hH58 ⟨u242, _, rfl⟩ rfl rfl ⟨rfl, rfl⟩ (by omega) (by omega) (fun hp68 hH68 U68 => ?_)
    have s68 := U68.1
    have n68_66_21 : rN hp68 (66) 21 = rN hp58 (66) 21 := rU_ne U68 (by omega)
    have n68_66_26 : rN hp68 (66) 26 = rN hp58 (66) 26 := rU_ne U68 (by omega)
    have n68_66_27 : rN hp68 (66) 27 = rN hp58 (66) 27 := rU_ne U68 (by omega)
    have n68_66_28 : rN hp68 (66) 28 = rN hp58 (66) 28 := rU_ne U68 (by omega)
    refine xgoto ⟨u242, _, rfl⟩ ?_
    exact xretV ⟨u242, _, rfl⟩ rfl (hR hp68 hH68 (((hF.trans (rU_fr U44 (by decide))).trans (rU_fr U58 (by decide))).trans (rU_fr U68 (by decide))) (rT_0 (by omega) (by omega) (by omega) (by omega)))
theorem k_radv {d : Nat} {hp : amH} {R : xQ} {y : tY} {p : Nat} (hH : bHk 84 bTT hp) (Y : rB hp = y) (h4 : rN hp 66 26 = (p : Int)) (hp0 : (p : Int) ≤ rN hp 66 21)
    (hR : ∀ hp1, bHk 84 bTT hp1 → bFr wAdv hp hp1 → rB hp1 = y → rT hp1 y (tS y p) → R (.inl none) hp1) : xK (d + 1) 242 [.ref 66] hp R := by
  have hok : tOk (rN hp 66 21).toNat y := by rw [← Y]; exact rB_ok hH
  refine xin (M := am_m242) rfl rfl rfl ?_
  exact m242a hok rfl (fun hp1 g1 g2 g3 g4 g5 => n242 hok (fun hp2 k1 k2 k3 => hR hp2 k1 k2 (by rw [rB_F k2 rfl (fun _ => rfl), Y]) k3) g1 g2 g3 g4 g5) (rN hp 66 21 - p).toNat p hp hH (bFr.refl _ _) Y h4 (Nat.le_refl _) (fun k k1 k2 => by omega) (by omega)
end
