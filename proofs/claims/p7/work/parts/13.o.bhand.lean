/-! ===== a method's check where some ways from cut to cut are shown by hand ===== -/
def bChkH (G : Nat → Option amM) (SP : Nat → List bSp) (T : Nat → Option bD) (n : Nat) (Wd : List (Nat × Nat)) (k : Nat) (s : bSp) (C : List bCu) (f : Nat) (hs : List Nat) : Bool := match G k with
  | none => false
  | some N => ((bUp 0 N.1 && bWs Wd s.2.2.2.1) && (match bArg [] s.1 with
    | (av, E) => (match bAddF E [] s.2.1 with
      | (E', F) => bRun G SP T n Wd s.2.2.2.1 f s.2.2.1 N (bArA T n C none) N.1 0 (bInit N.2.1 av) [] (E', F, [], []) (bKs T n s)))) &&
    lAll (fun c => match lHas hs c.1 with
     | true => true
     | false => (match bSta c with
      | some z => bRun G SP T n Wd s.2.2.2.1 f s.2.2.1 N (bArA T n C (some (c.2.2.2.2, z.1, z.2))) (aSeek N.1 c.1) c.1 z.1 [] z.2 (bKs T n s)
      | none => false)) C
/-- what a way by hand has to show: from a state at the cut c, given what other cuts of a smaller measure and ends lead to -/
def bHnd (G : Nat → Option amM) (T : Nat → Option bD) (n : Nat) (P : amH → Prop) (k : Nat) (s : bSp) (C : List bCu) (c : bCu) : Prop :=
  ∀ N, G k = some N → ∀ (cl : amL) (hp : amH) (Q : (Option Value ⊕ Nat) → amH → Prop), bCuR n c cl hp → bHk n T hp → P hp →
    (∀ c1 ∈ C, ∀ (cl1 : amL) (hp1 : amH), bCuR n c1 cl1 hp1 → bHk n T hp1 → P hp1 → bFr s.2.2.2.1 hp hp1 → bEnc (c1.2.2.2.2.map (bMu cl1 hp1)) < bEnc (c.2.2.2.2.map (bMu cl hp)) → bWp G s.2.2.1 N (amSeek N.1 c1.1) c1.1 cl1 [] hp1 Q) →
    (∀ y hp1, bHk n T hp1 → P hp1 → bFr s.2.2.2.1 hp hp1 → bOut n s y hp1 → Q y hp1) → bWp G s.2.2.1 N (amSeek N.1 c.1) c.1 cl [] hp Q
theorem bChkH_s {G : Nat → Option amM} {SP : Nat → List bSp} {T : Nat → Option bD} {n : Nat} {Wd : List (Nat × Nat)} {P : amH → Prop} (hn : n ≤ 999999) (hSP : ∀ k s, s ∈ SP k → bSem G P n T k s) (hPd : ∀ hp hp1, bFr Wd hp hp1 → P hp → P hp1) {k : Nat} {s : bSp} {C : List bCu} {f : Nat} {hs : List Nat} (h : bChkH G SP T n Wd k s C f hs = true) (hH : ∀ c ∈ C, lHas hs c.1 = true → bHnd G T n P k s C c) : bSem G P n T k s := by
  unfold bChkH at h
  split at h
  · cases h
  · next N hN =>
    simp only [Bool.and_eq_true] at h
    obtain ⟨⟨⟨hu, hW⟩, he⟩, hc⟩ := h
    have key : ∀ (μ : Nat) (c : bCu) (cl : amL) (hp : amH), c ∈ C → bEnc (c.2.2.2.2.map (bMu cl hp)) = μ → bCuR n c cl hp → bHk n T hp → P hp →
        bWp G s.2.2.1 N (amSeek N.1 c.1) c.1 cl [] hp (fun y hp1 => bHk n T hp1 ∧ P hp1 ∧ bFr s.2.2.2.1 hp hp1 ∧ bOut n s y hp1) := by
      intro μ
      induction μ using Nat.strongRecOn with
      | ind μ ih =>
        intro c cl hp hcC hμ hcr hHp hP
        have h1 := lAll_m hc c hcC
        split at h1
        · next eh =>
          refine hH c hcC eh N hN cl hp _ hcr hHp hP (fun c1 m1 cl1 hp1 k1 k2 k3 k4 k5 => ?_) (fun y hp1 k1 k2 k3 k4 => ⟨k1, k2, k3, k4⟩)
          rw [hμ] at k5
          exact bWp_mono (ih _ k5 c1 cl1 hp1 m1 rfl k1 k2 k3) (fun y hp2 k => ⟨k.1, k.2.1, k4.trans k.2.2.1, k.2.2.2⟩)
        · split at h1
          · next z ez =>
            obtain ⟨ρ, hr⟩ := bSta_s (T := T) (ls := z.1) (S := z.2) ez hcr hHp
            rw [aSeek_eq] at h1
            refine bRun_s hn hSP hPd hW _ _ _ _ _ _ _ _ _ _ h1 (List.dropWhile_suffix _) ρ cl [] hp _ hr hP ?_ ?_
            · intro x S1 ρ1 y hp1 k1 k2 k3 k4 k5 k6 k7
              exact ⟨k5, k6, k7, bKs_s k1 k2 k3 k5⟩
            · intro pc1 chk ls1 st1 S1 ρ1 cl1 cst1 hp1 e1 e2 e3 e4 e5 e6 cs0 e7
              unfold bArA at e1
              split at e1
              · next c1 ec1 =>
                cases e1
                obtain ⟨m1, m2⟩ := bFiC_s ec1
                obtain ⟨g1, g2, g3⟩ := bArr_s e2 e3
                subst g1
                rw [bUp_next hu e7, ← m2]
                have g4 := bMeL_s e4 ⟨hr.1.1, hr.2.2.1.2.1⟩ ⟨e3.1.1, e3.2.2.1.2.1⟩ (g3 _ rfl)
                have g5 := bEnc_lex g4.1 (by rw [List.length_map, List.length_map, g4.2]) (fun m hm => by obtain ⟨q, -, rfl⟩ := List.mem_map.mp hm; exact bMu_le _ _ _) (fun m hm => by obtain ⟨q, -, rfl⟩ := List.mem_map.mp hm; exact bMu_le _ _ _)
                rw [hμ] at g5
                exact bWp_mono (ih _ g5 c1 cl1 hp1 m1 rfl g2 e3.2.2.2 e5) (fun y hp2 k => ⟨k.1, k.2.1, e6.trans k.2.2.1, k.2.2.2⟩)
              · cases e1
          · cases h1
    refine ⟨N, hN, fun av hp hHp hP ha hf => ?_⟩
    obtain ⟨ρ1, -, g2, g3⟩ := bArg_s (n := n) (ρ := []) (E := []) ⟨rfl, fun i a b e => by cases e⟩ ha
    obtain ⟨ρ2, k1, k2, k3⟩ := bAddF_s (n := n) (F := []) (hp := hp) g2 (fun f hf => by cases hf) hf
    have hS0 : bRS n ρ2 ((bAddF (bArg [] s.1).2 [] s.2.1).1, (bAddF (bArg [] s.1).2 [] s.2.1).2, [], []) hp := by
      refine ⟨k2, k3, ?_, ?_⟩
      · intro r hr
        simp at hr
      · intro m hm
        simp at hm
    refine bRun_s hn hSP hPd hW _ _ _ _ _ _ _ _ _ _ he (List.suffix_refl _) ρ2 _ [] hp _ ⟨bInit_l (bRs_mono k1 g3), trivial, hS0, hHp⟩ hP ?_ ?_
    · intro x S1 ρ3 y hp1 k1 k2 k3 k4 k5 k6 k7
      exact ⟨k5, k6, k7, bKs_s k1 k2 k3 k5⟩
    · intro pc1 chk ls1 st1 S1 ρ3 cl1 cst1 hp1 e1 e2 e3 e4 e5 e6 cs0 e7
      unfold bArA at e1
      split at e1
      · next c1 ec1 =>
        cases e1
        obtain ⟨m1, m2⟩ := bFiC_s ec1
        obtain ⟨g1, g2, g3⟩ := bArr_s e2 e3
        subst g1
        rw [bUp_next hu e7, ← m2]
        exact bWp_mono (key _ c1 cl1 hp1 m1 rfl g2 e3.2.2.2 e5) (fun y hp2 k => ⟨k.1, k.2.1, e6.trans k.2.2.1, k.2.2.2⟩)
      · cases e1
