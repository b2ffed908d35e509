/-! ===== the class reads its text ===== -/
theorem tSt_1 {y : tY} {V s : Nat} {T : sT} (h : ¬ (tWd y s wDev = true ∨ tWd y s wTri = true)) : tSt y V T s = .inl (1, s) := by
  unfold tSt
  rw [if_pos h]
theorem tSt_2 {y : tY} {V s : Nat} {T : sT} (h : tWd y s wDev = true ∨ tWd y s wTri = true) (h2 : ¬ tNum y (tN y s) 0 ((V : Int) - 1) [] = 0) : tSt y V T s = .inl (tNum y (tN y s) 0 ((V : Int) - 1) [], tN y s) := by
  unfold tSt
  rw [if_neg (fun z => z h), if_pos h2]
theorem tSt_3 {y : tY} {V s : Nat} {T : sT} (h : tWd y s wDev = true ∨ tWd y s wTri = true) (h2 : tNum y (tN y s) 0 ((V : Int) - 1) [] = 0) (h3 : ¬ tNum y (tN y (tN y s)) 0 ((V : Int) - 1) [tV y (tN y s)] = 0) : tSt y V T s = .inl (tNum y (tN y (tN y s)) 0 ((V : Int) - 1) [tV y (tN y s)], tN y (tN y s)) := by
  unfold tSt
  rw [if_neg (fun z => z h), if_neg (fun z => z h2), if_pos h3]
theorem tSt_4 {y : tY} {V s : Nat} {T : sT} (h : tWd y s wDev = true ∨ tWd y s wTri = true) (h2 : tNum y (tN y s) 0 ((V : Int) - 1) [] = 0) (h3 : tNum y (tN y (tN y s)) 0 ((V : Int) - 1) [tV y (tN y s)] = 0) (h4 : ¬ tNum y (tN y (tN y (tN y s))) 0 ((V : Int) - 1) [tV y (tN y s), tV y (tN y (tN y s))] = 0) : tSt y V T s = .inl (tNum y (tN y (tN y (tN y s))) 0 ((V : Int) - 1) [tV y (tN y s), tV y (tN y (tN y s))], tN y (tN y (tN y s))) := by
  unfold tSt
  rw [if_neg (fun z => z h), if_neg (fun z => z h2), if_neg (fun z => z h3), if_pos h4]
theorem rSt_h {y : tY} {V : Nat} {T : sT} {s : Nat} {z : Int} {hp hp0 hp1 : amH} (h : rSt y V T s z hp hp1) (e1 : rN hp 1 1 = rN hp0 1 1) (e2 : rN hp 1 2 = rN hp0 1 2) : rSt y V T s z hp0 hp1 := by
  unfold rSt at h ⊢
  rw [e1, e2] at h
  exact h
theorem pr_0 {m : Nat} (h : m = 0) : ∀ i, i < 15 → m.testBit i = decide ((i : Int) ∈ ([] : List Int)) := by
  intro i _
  subst h
  simp
theorem pr_or {m v : Nat} {pre pre2 : List Int} (hv : v < 15) (h : ∀ i, i < 15 → m.testBit i = decide ((i : Int) ∈ pre)) (h2 : ∀ i : Int, i ∈ pre2 ↔ (i ∈ pre ∨ i = (v : Int))) : ∀ i, i < 15 → (m ||| 2 ^ v).testBit i = decide ((i : Int) ∈ pre2) := by
  intro i hi
  rw [Nat.testBit_or, h i hi, p2_test]
  by_cases e : i = v
  · subst e
    simp [h2]
  · have : ¬ (i : Int) = (v : Int) := by omega
    simp [h2, e, this]
theorem t79 {d : Nat} {hp : amH} {R : xQ} {y : tY} {s V : Nat} {T : sT} {dv w k : Int32} (hH : bHk 84 bTT hp) (Y : cB hp = y) (hT : cT hp y (tN y s)) (hs : (s : Int) ≤ rN hp 1 0) (hB : bdOk hp 8 V T) (hw : w.toInt = 0) (hk : k.toInt = 0) (hwd : tWd y s wDev = true ∨ tWd y s wTri = true) (hdv : (dv.toInt = 1 ∧ tWd y s wDev = true) ∨ (dv.toInt = 0 ∧ tWd y s wTri = true))
    (hR : ∀ (z : Int32) hp1, bHk 84 bTT hp1 → pFr hp hp1 → rSt y V T s z.toInt hp hp1 → R (.inl (some (.int z))) hp1) :
    xV (d + 4) am_m79 35 [some (.ref 1), some (.ref 8), some (.int dv), some (.int w), some (.int k)] [] hp R := by
  have hok : tOk (rN hp 1 0).toNat y := by rw [← Y]; exact cB_ok hH
  have b0 := b1_0 hH
  have bV := hB.2.1.2.1
  have u1 := tN_le hok (s := s) (by omega)
  have u2 := tN_le hok (s := tN y s) (by omega)
  have u3 := tN_le hok (s := tN y (tN y s)) (by omega)
  have u4 := tN_le hok (s := tN y (tN y (tN y s))) (by omega)
  refine l79 (pre := []) (m := 0) (kk := 0) hH Y hT (by omega) hB (by omega) (by decide) (pr_0 rfl) (by omega) (by decide) (fun z hp1 e1 e2 e3 e4 e5 e6 => hR z hp1 e3 e4 (rSt_e (tSt_2 hwd e1) e2 e5 e6)) (fun w1 k1 hp1 n1 v1a v1b _ H1 F1 Y1 T1 B1 W1 M1 K1 A1 A1b => ?_)
  have q0 : rN hp1 1 0 = rN hp 1 0 := p_n F1 (by omega)
  have p1 := pr_or (v := (tV y (tN y s)).toNat) (pre2 := [tV y (tN y s)]) (by omega) (pr_0 (m := 0) rfl) (fun i => by rw [show (((tV y (tN y s)).toNat : Nat) : Int) = tV y (tN y s) by omega]; simp)
  refine l79 (pre := [tV y (tN y s)]) (kk := 1) H1 Y1 T1 (by omega) B1 W1 M1 p1 (by omega) (by decide) (fun z hp2 e1 e2 e3 e4 e5 e6 => hR z hp2 e3 (F1.trans e4) (rSt_e (tSt_3 hwd n1 e1) e2 e5 e6)) (fun w2 k2 hp2 n2 v2a v2b v2n H2 F2 Y2 T2 B2 W2 M2 K2 A2 A2b => ?_)
  have q1 : rN hp2 1 0 = rN hp1 1 0 := p_n F2 (by omega)
  have p2 := pr_or (v := (tV y (tN y (tN y s))).toNat) (pre2 := [tV y (tN y s), tV y (tN y (tN y s))]) (by omega) p1 (fun i => by rw [show (((tV y (tN y (tN y s))).toNat : Nat) : Int) = tV y (tN y (tN y s)) by omega]; simp)
  refine l79 (pre := [tV y (tN y s), tV y (tN y (tN y s))]) (kk := 2) H2 Y2 T2 (by omega) B2 W2 M2 p2 (by omega) (by decide) (fun z hp3 e1 e2 e3 e4 e5 e6 => hR z hp3 e3 ((F1.trans F2).trans e4) (rSt_e (tSt_4 hwd n1 n2 e1) e2 e5 e6)) (fun w3 k3 hp3 n3 v3a v3b v3n H3 F3 Y3 T3 B3 W3 M3 K3 A3 A3b => ?_)
  have q2 : rN hp3 1 0 = rN hp2 1 0 := p_n F3 (by omega)
  simp only [List.mem_singleton, List.mem_cons, List.not_mem_nil, or_false, not_or] at v2n v3n
  refine e79 (v1 := (tV y (tN y s)).toNat) (v2 := (tV y (tN y (tN y s))).toNat) (v3 := (tV y (tN y (tN y (tN y s)))).toNat) H3 ((F1.trans F2).trans F3) (by omega) (by omega) Y3 T3 (by omega) B3 ⟨hwd, n1, n2, n3⟩ (by omega) (by omega) (by omega) (by omega) (by omega) (by omega) (by omega) (by omega) (by omega) ?_ (by omega) hdv hR
  rw [W3, Nat.zero_or]
  rfl
theorem k_rds {d : Nat} {hp : amH} {R : xQ} {y : tY} {s V : Nat} {T : sT} (hH : bHk 84 bTT hp) (Y : cB hp = y) (hT : cT hp y s) (hs : (s : Int) ≤ rN hp 1 0) (hB : bdOk hp 8 V T)
    (hR : ∀ (z : Int32) hp1, bHk 84 bTT hp1 → pFr hp hp1 → rSt y V T s z.toInt hp hp1 → R (.inl (some (.int z))) hp1) : xK (d + 4) 79 [.ref 1, .ref 8] hp R := by
  have hok : tOk (rN hp 1 0).toNat y := by rw [← Y]; exact cB_ok hH
  have b0 := b1_0 hH
  have w1 := tE_le hok (s := s) (by omega)
  refine xin (M := am_m79) rfl rfl rfl ?_
  refine xald 1 ⟨u79, _, rfl⟩ rfl rfl ?_
  refine xldcW 3 ⟨u79, _, rfl⟩ rfl ?_
  refine xcallC 6 (o := 1) [.ref 1000001] [] hH ⟨u79, _, rfl⟩ rfl rfl (by decide) rfl (by decide) rfl ⟨rfl, rfl, rfl, rfl⟩ rfl (k_cw (l := wDev) rfl ⟨rfl, by decide⟩ hH Y hT (by omega) (fun z3 h3 => ⟨_, rfl, ?_⟩))
  refine xist 7 ⟨u79, _, rfl⟩ rfl rfl ?_
  refine xild 8 ⟨u79, _, rfl⟩ rfl rfl ?_
  refine xif_ne 11 ⟨u79, _, rfl⟩ rfl (fun c8 => ?_) (fun c8 => ?_)
  · refine xald 27 ⟨u79, _, rfl⟩ rfl rfl ?_
    refine xcallC 30 (o := 1) [] [] hH ⟨u79, _, rfl⟩ rfl rfl (by decide) rfl (by decide) rfl ⟨rfl, rfl, rfl, rfl⟩ rfl (k_cadv hH Y (p := tE y s) hT.2.1 (by omega) (fun hp27 hH27 F27 Y27 T27 => ⟨_, rfl, ?_⟩))
    refine xcst 31 (0) ⟨u79, _, rfl⟩ rfl (by decide) (fun z30 h30 => ?_)
    refine xist 32 ⟨u79, _, rfl⟩ rfl rfl ?_
    refine xcst 33 (0) ⟨u79, _, rfl⟩ rfl (by decide) (fun z32 h32 => ?_)
    refine xist2 35 ⟨u79, _, rfl⟩ rfl rfl ?_
    have q0 : rN hp27 1 0 = rN hp 1 0 := r_fr F27 rfl
    exact t79 hH27 Y27 T27 (by omega) (bdOk_fr hB (r_fr F27 rfl) (fun i => r_fr F27 rfl) (fun i => r_fr F27 rfl)) (by omega) (by omega) (Or.inl (by rcases h3 with g | g; exact g.2; omega)) (Or.inl ⟨by omega, by rcases h3 with g | g; exact g.2; omega⟩) (fun z hp1 g1 g2 g3 => hR z hp1 g1 ((pFr_t F27).trans g2) (rSt_h g3 (r_fr F27 rfl) (r_fr F27 rfl)))
  · refine xald 12 ⟨u79, _, rfl⟩ rfl rfl ?_
    refine xldcW 14 ⟨u79, _, rfl⟩ rfl ?_
    refine xcallC 17 (o := 1) [.ref 1000002] [] hH ⟨u79, _, rfl⟩ rfl rfl (by decide) rfl (by decide) rfl ⟨rfl, rfl, rfl, rfl⟩ rfl (k_cw (l := wTri) rfl ⟨rfl, by decide⟩ hH Y hT (by omega) (fun z14 h14 => ⟨_, rfl, ?_⟩))
    refine xif_ne 20 ⟨u79, _, rfl⟩ rfl (fun c17 => ?_) (fun c17 => ?_)
    · refine xald 27 ⟨u79, _, rfl⟩ rfl rfl ?_
      refine xcallC 30 (o := 1) [] [] hH ⟨u79, _, rfl⟩ rfl rfl (by decide) rfl (by decide) rfl ⟨rfl, rfl, rfl, rfl⟩ rfl (k_cadv hH Y (p := tE y s) hT.2.1 (by omega) (fun hp27 hH27 F27 Y27 T27 => ⟨_, rfl, ?_⟩))
      refine xcst 31 (0) ⟨u79, _, rfl⟩ rfl (by decide) (fun z30 h30 => ?_)
      refine xist 32 ⟨u79, _, rfl⟩ rfl rfl ?_
      refine xcst 33 (0) ⟨u79, _, rfl⟩ rfl (by decide) (fun z32 h32 => ?_)
      refine xist2 35 ⟨u79, _, rfl⟩ rfl rfl ?_
      have q0 : rN hp27 1 0 = rN hp 1 0 := r_fr F27 rfl
      exact t79 hH27 Y27 T27 (by omega) (bdOk_fr hB (r_fr F27 rfl) (fun i => r_fr F27 rfl) (fun i => r_fr F27 rfl)) (by omega) (by omega) (Or.inr (by rcases h14 with g | g; exact g.2; omega)) (Or.inr ⟨by omega, by rcases h14 with g | g; exact g.2; omega⟩) (fun z hp1 g1 g2 g3 => hR z hp1 g1 ((pFr_t F27).trans g2) (rSt_h g3 (r_fr F27 rfl) (r_fr F27 rfl)))
    · refine xald 21 ⟨u79, _, rfl⟩ rfl rfl ?_
      refine xcst 22 (1) ⟨u79, _, rfl⟩ rfl (by decide) (fun z21 h21 => ?_)
      refine xcallC 25 (o := 1) [.int _] [] hH ⟨u79, _, rfl⟩ rfl rfl (by decide) rfl (by decide) rfl ⟨rfl, rfl, rfl, rfl⟩ rfl (k_cf hH (fun z22 hp22 Z22 hH22 F22 A22 B22 => ⟨_, rfl, ?_⟩))
      exact xretB ⟨u79, _, rfl⟩ rfl (by omega) (hR _ hp22 hH22 (pFr_f F22) (rSt_e (tSt_1 (fun z => by rcases z with z | z; rcases h3 with g | g; omega; rw [z] at g; exact absurd g.2 (by decide); rcases h14 with g | g; omega; rw [z] at g; exact absurd g.2 (by decide))) (by omega) (by omega) (by rw [B22]; exact hT.1)))
/-- what is read -/
def rRs (y : tY) (V f : Nat) (T : sT) (s : Nat) (z : Int) (hp1 : amH) : Prop := match tRs y V f T s with
  | .inl e => z = 0 ∧ rN hp1 1 1 = e.1 ∧ rN hp1 1 2 = (e.2 : Int)
  | .inr T1 => z = 1 ∧ bdOk hp1 8 V T1 ∧ rN hp1 1 1 = 0 ∧ rN hp1 1 2 = -1
/-- after a statement that is read, the text is nearer to its end -/
theorem tSt_gt {n : Nat} {y : tY} (h : tOk n y) {V : Nat} {T : sT} {s : Nat} {q : sT × Nat} (e : tSt y V T s = .inr q) : s < q.2 ∧ (s ≤ n → q.2 ≤ n) := by
  have hw : tWd y s wDev = true ∨ tWd y s wTri = true := by
    apply Classical.byContradiction
    intro z
    rw [tSt_1 z] at e
    cases e
  have hk : ¬ tK y s = 0 := by
    rcases hw with g | g
    · have := (of_decide_eq_true g).1; omega
    · have := (of_decide_eq_true g).1; omega
  have e2 : q.2 = tN y (tN y (tN y (tN y (tN y s)))) := by
    unfold tSt at e
    rw [if_neg (fun z => z hw)] at e
    split at e
    · cases e
    · split at e
      · cases e
      · split at e
        · cases e
        · split at e
          · cases e
          · split at e
            · cases e
            · split at e
              · cases e; rfl
              · split at e
                · cases e
                · cases e; rfl
  have g1 := tN_gt h hk
  have g2 := tN_ge (y := y) (s := tN y s)
  have g3 := tN_ge (y := y) (s := tN y (tN y s))
  have g4 := tN_ge (y := y) (s := tN y (tN y (tN y s)))
  have g5 := tN_ge (y := y) (s := tN y (tN y (tN y (tN y s))))
  refine ⟨by omega, fun hs => ?_⟩
  rw [e2]
  exact tN_le h (tN_le h (tN_le h (tN_le h (tN_le h hs))))
theorem b77 {d : Nat} {hp : amH} {R : xQ} {b k : Int32} (hb : b.toInt = 0) (hR : R (.inl (some (.int b))) hp) : xV d am_m77 27 [some (.ref 1), some (.ref 8), some (.int b), some (.int k)] [] hp R := by
  refine xild 28 ⟨u77, _, rfl⟩ rfl rfl ?_
  refine xsip 31 (600) ⟨u77, _, rfl⟩ rfl (by decide) (fun z28 h28 => ?_)
  refine xcmp_ge 34 ⟨u77, _, rfl⟩ rfl (fun c31 => ?_) (fun c31 => ?_)
  · refine xild 58 ⟨u77, _, rfl⟩ rfl rfl ?_
    exact xretB ⟨u77, _, rfl⟩ rfl (by omega) (hR)
  · refine xild 35 ⟨u77, _, rfl⟩ rfl rfl ?_
    refine xif_eq 38 ⟨u77, _, rfl⟩ rfl (fun c35 => ?_) (fun c35 => ?_)
    · refine xild 58 ⟨u77, _, rfl⟩ rfl rfl ?_
      exact xretB ⟨u77, _, rfl⟩ rfl (by omega) (hR)
    · omega
theorem l77 {d : Nat} {hp0 : amH} {R : xQ} {y : tY} {V : Nat} (hok : tOk (rN hp0 1 0).toNat y) (hb0 : rN hp0 1 0 ≤ 600) :
    ∀ (f s q : Nat) (T : sT) (hp : amH) (k : Int32), bHk 84 bTT hp → pFr hp0 hp → cB hp = y → cT hp y s → (s : Int) ≤ rN hp0 1 0 → bdOk hp 8 V T → rN hp 1 1 = 0 → rN hp 1 2 = -1 → k.toInt = (q : Int) → q ≤ s → 600 < f + s →
    (∀ (z : Int32) hp1, bHk 84 bTT hp1 → pFr hp0 hp1 → rRs y V f T s z.toInt hp1 → R (.inl (some (.int z))) hp1) → ∀ b : Int32, b.toInt = 1 → xV (d + 5) am_m77 27 [some (.ref 1), some (.ref 8), some (.int b), some (.int k)] [] hp R := by
  intro f
  induction f with
  | zero => intro s q T hp k hH hF Y hT hs hB h1 h2 hk hq hf hR b hb; omega
  | succ f ih =>
    intro s q T hp k hH hF Y hT hs hB h1 h2 hk hq hf hR b hb
    have q0 : rN hp 1 0 = rN hp0 1 0 := p_n hF (by omega)
    have K0 := hT.2.2.1
    have ns : ¬ tK y s = 0 → (s : Int) < rN hp0 1 0 := fun z => by
      rcases Nat.lt_or_ge s (rN hp0 1 0).toNat with g | g
      · omega
      · exact absurd (tK_0.mpr (hok.2.2 s g)) z
    unfold rRs tRs at hR
    refine xild 28 ⟨u77, _, rfl⟩ rfl rfl ?_
    refine xsip 31 (600) ⟨u77, _, rfl⟩ rfl (by decide) (fun z28 h28 => ?_)
    refine xcmp_ge 34 ⟨u77, _, rfl⟩ rfl (fun c31 => ?_) (fun c31 => ?_)
    · have k0 : tK y s = 0 := Classical.byContradiction (fun z => by have := ns z; omega)
      refine xild 58 ⟨u77, _, rfl⟩ rfl rfl ?_
      rw [if_pos k0] at hR
      exact xretB ⟨u77, _, rfl⟩ rfl (by omega) (hR _ hp hH hF ⟨hb, hB, h1, h2⟩)
    · refine xild 35 ⟨u77, _, rfl⟩ rfl rfl ?_
      refine xif_eq 38 ⟨u77, _, rfl⟩ rfl (fun c35 => ?_) (fun c35 => ?_)
      · omega
      · refine xald 39 ⟨u77, _, rfl⟩ rfl rfl ?_
        refine xgetC 42 hH ⟨u77, _, rfl⟩ rfl (by decide) (by decide) rfl rfl (by decide) (fun z39 h39 => ?_)
        refine xif_eq 45 ⟨u77, _, rfl⟩ rfl (fun c42 => ?_) (fun c42 => ?_)
        · refine xild 58 ⟨u77, _, rfl⟩ rfl rfl ?_
          rw [if_pos (ckK_0.mp (by omega))] at hR
          exact xretB ⟨u77, _, rfl⟩ rfl (by omega) (hR _ hp hH hF ⟨hb, hB, h1, h2⟩)
        · have nk : ¬ tK y s = 0 := fun z => by have := ckK_0.mpr z; omega
          rw [if_neg nk] at hR
          refine xald 46 ⟨u77, _, rfl⟩ rfl rfl ?_
          refine xald 47 ⟨u77, _, rfl⟩ rfl rfl ?_
          refine xcallC 50 (o := 1) [.ref 8] [] hH ⟨u77, _, rfl⟩ rfl rfl (by decide) rfl (by decide) rfl ⟨rfl, rfl, rfl, rfl⟩ rfl (k_rds hH Y hT (by omega) hB (fun z47 hp47 hH47 F47 r47 => ⟨_, rfl, ?_⟩))
          refine xist 51 ⟨u77, _, rfl⟩ rfl rfl ?_
          refine xinc 54 (1) ⟨u77, _, rfl⟩ rfl rfl rfl (by decide) (by omega) (by omega) (fun z51 h51 => ?_)
          refine xgoto ⟨u77, _, rfl⟩ ?_
          cases e : tSt y V T s with
          | inl er =>
            rw [e] at hR
            unfold rSt at r47
            rw [e] at r47
            have r47 : z47.toInt = 0 ∧ rN hp47 1 1 = er.1 ∧ rN hp47 1 2 = (er.2 : Int) := r47
            exact b77 (by omega) (hR _ hp47 hH47 (hF.trans F47) r47)
          | inr qq =>
            rw [e] at hR
            unfold rSt at r47
            rw [e] at r47
            obtain ⟨r1, r2, r3, S1, S2⟩ := r47
            have gt := tSt_gt hok e
            exact ih qq.2 (q + 1) qq.1 hp47 _ hH47 (hF.trans F47) (by rw [cB_p F47, Y]) r3 (by have := gt.2 (by omega); omega) r2 (by omega) (by omega) (by omega) (by omega) (by omega) hR _ r1
theorem pFr_U {hp hp1 : amH} {j : Nat} {m : Int} (U : rU hp hp1 1 j m) (h : ¬ j = 0 ∧ ¬ j = 3) : pFr hp hp1 := fun c k e => U.2 c k (fun z => e (Or.inl ⟨z.1, by rw [z.2]; exact h.1, by rw [z.2]; exact h.2⟩))
def rRd (y : tY) (z : Int) (hp1 : amH) : Prop := match tRd y with
  | .inl e => z = 0 ∧ rN hp1 1 1 = e.1 ∧ rN hp1 1 2 = (e.2 : Int)
  | .inr q => z = 1 ∧ bdOk hp1 8 q.1 q.2 ∧ rN hp1 1 1 = 0 ∧ rN hp1 1 2 = -1
/-- the class reads its text -/
theorem k_read {d : Nat} {hp : amH} {R : xQ} {y : tY} (hH : bHk 84 bTT hp) (Y : cB hp = y)
    (hR : ∀ (z : Int32) hp1, bHk 84 bTT hp1 → pFr hp hp1 → rRd y z.toInt hp1 → R (.inl (some (.int z))) hp1) : xK (d + 5) 77 [.ref 1, .ref 8] hp R := by
  have hok : tOk (rN hp 1 0).toNat y := by rw [← Y]; exact cB_ok hH
  have b0 := b1_0 hH
  have u0 := tS_le hok (p := 0) (by omega)
  have u1 := tN_le hok (s := tS y 0) (by omega)
  have u2 := tN_le hok (s := tN y (tS y 0)) (by omega)
  have u3 := tN_le hok (s := tN y (tN y (tS y 0))) (by omega)
  refine xin (M := am_m77) rfl rfl rfl ?_
  refine xald 1 ⟨u77, _, rfl⟩ rfl rfl ?_
  refine xcst 2 (0) ⟨u77, _, rfl⟩ rfl (by decide) (fun z1 h1 => ?_)
  refine xputC 5 hH ⟨u77, _, rfl⟩ rfl (by decide) (by decide) rfl rfl (by decide) ⟨rfl, rfl⟩ (by omega) (by omega) (fun hp2 hH2 U2 => ?_)
  have s2 := U2.1
  have n2_1_0 : rN hp2 (1) 0 = rN hp (1) 0 := rU_ne U2 (by omega)
  have n2_1_2 : rN hp2 (1) 2 = rN hp (1) 2 := rU_ne U2 (by omega)
  have n2_1_4 : rN hp2 (1) 4 = rN hp (1) 4 := rU_ne U2 (by omega)
  refine xald 6 ⟨u77, _, rfl⟩ rfl rfl ?_
  refine xcst 7 (-1) ⟨u77, _, rfl⟩ rfl (by decide) (fun z6 h6 => ?_)
  refine xputC 10 hH2 ⟨u77, _, rfl⟩ rfl (by decide) (by decide) rfl rfl (by decide) ⟨rfl, rfl⟩ (by omega) (by omega) (fun hp7 hH7 U7 => ?_)
  have s7 := U7.1
  have n7_1_0 : rN hp7 (1) 0 = rN hp2 (1) 0 := rU_ne U7 (by omega)
  have n7_1_1 : rN hp7 (1) 1 = rN hp2 (1) 1 := rU_ne U7 (by omega)
  have n7_1_4 : rN hp7 (1) 4 = rN hp2 (1) 4 := rU_ne U7 (by omega)
  refine xald 11 ⟨u77, _, rfl⟩ rfl rfl ?_
  refine xcst 12 (0) ⟨u77, _, rfl⟩ rfl (by decide) (fun z11 h11 => ?_)
  refine xputC 15 hH7 ⟨u77, _, rfl⟩ rfl (by decide) (by decide) rfl rfl (by decide) ⟨rfl, rfl⟩ (by omega) (by omega) (fun hp12 hH12 U12 => ?_)
  have s12 := U12.1
  have n12_1_0 : rN hp12 (1) 0 = rN hp7 (1) 0 := rU_ne U12 (by omega)
  have n12_1_1 : rN hp12 (1) 1 = rN hp7 (1) 1 := rU_ne U12 (by omega)
  have n12_1_2 : rN hp12 (1) 2 = rN hp7 (1) 2 := rU_ne U12 (by omega)
  refine xald 16 ⟨u77, _, rfl⟩ rfl rfl ?_
  refine xcallC 19 (o := 1) [] [] hH12 ⟨u77, _, rfl⟩ rfl rfl (by decide) rfl (by decide) rfl ⟨rfl, rfl, rfl, rfl⟩ rfl (k_cadv hH12 ((cB_U U12 (by decide)).trans ((cB_U U7 (by decide)).trans ((cB_U U2 (by decide)).trans Y))) (p := 0) (by omega) (by omega) (fun hp16 hH16 F16 Y16 T16 => ⟨_, rfl, ?_⟩))
  have G16 := (((pFr_U U2 (by decide)).trans (pFr_U U7 (by decide))).trans (pFr_U U12 (by decide))).trans (pFr_t F16)
  have n16 : rN hp16 1 0 = rN hp 1 0 := p_n G16 (by omega)
  have c16 : rN hp16 1 1 = rN hp12 1 1 := r_fr F16 rfl
  have o16 : rN hp16 1 2 = rN hp12 1 2 := r_fr F16 rfl
  refine xald 20 ⟨u77, _, rfl⟩ rfl rfl ?_
  refine xald 21 ⟨u77, _, rfl⟩ rfl rfl ?_
  refine xcallC 24 (o := 1) [.ref 8] [] hH16 ⟨u77, _, rfl⟩ rfl rfl (by decide) rfl (by decide) rfl ⟨rfl, rfl, rfl, rfl⟩ rfl (k_rdp hH16 Y16 T16 (by omega) (fun z21 hp21 hH21 F21 r21 => ⟨_, rfl, ?_⟩))
  refine xist 25 ⟨u77, _, rfl⟩ rfl rfl ?_
  refine xcst 26 (0) ⟨u77, _, rfl⟩ rfl (by decide) (fun z25 h25 => ?_)
  refine xist 27 ⟨u77, _, rfl⟩ rfl rfl ?_
  cases e : tPt y (tS y 0) with
  | inl er =>
    unfold rPt at r21
    rw [e] at r21
    refine b77 (by have := r21.1; omega) (hR _ hp21 hH21 (G16.trans F21) ?_)
    unfold rRd tRd
    rw [e]
    exact r21
  | inr V =>
    unfold rPt at r21
    rw [e] at r21
    obtain ⟨r1, r2, r3, r4, r5, r6, r7⟩ := r21
    have n21 : rN hp21 1 0 = rN hp 1 0 := (p_n F21 (by omega)).trans n16
    refine l77 (hp0 := hp) hok b0.2 601 _ 0 sE hp21 _ hH21 (G16.trans F21) (by rw [cB_p F21, Y16]) r5 (by omega) r4 (by omega) (by omega) (by omega) (by omega) (by omega) (fun z hp1 g1 g2 g3 => hR z hp1 g1 g2 ?_) _ r1
    unfold rRd tRd
    rw [e]
    unfold rRs at g3
    cases e2 : tRs y V 601 sE (tN y (tN y (tN y (tS y 0)))) with
    | inl er => rw [e2] at g3; show (match (match tRs y V 601 sE (tN y (tN y (tN y (tS y 0)))) with | .inl e => Sum.inl e | .inr T => Sum.inr (V, T)) with | Sum.inl e => z.toInt = 0 ∧ rN hp1 1 1 = e.fst ∧ rN hp1 1 2 = (e.snd : Int) | Sum.inr q => z.toInt = 1 ∧ bdOk hp1 8 q.fst q.snd ∧ rN hp1 1 1 = 0 ∧ rN hp1 1 2 = -1); rw [e2]; exact g3
    | inr T1 => rw [e2] at g3; show (match (match tRs y V 601 sE (tN y (tN y (tN y (tS y 0)))) with | .inl e => Sum.inl e | .inr T => Sum.inr (V, T)) with | Sum.inl e => z.toInt = 0 ∧ rN hp1 1 1 = e.fst ∧ rN hp1 1 2 = (e.snd : Int) | Sum.inr q => z.toInt = 1 ∧ bdOk hp1 8 q.fst q.snd ∧ rN hp1 1 1 = 0 ∧ rN hp1 1 2 = -1); rw [e2]; exact g3
