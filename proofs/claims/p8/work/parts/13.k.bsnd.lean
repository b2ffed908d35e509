/-! ===== runs over invariants are sound ===== -/
def bRx (n : Nat) (ρ : List Nat) : (Option bV ⊕ Nat) → (Option Value ⊕ Nat) → Prop
  | .inl v, .inl w => bRv n ρ v w
  | .inr E, .inr E' => E = E'
  | _, _ => False
theorem bCase_s {n : Nat} {ρ : List Nat} {W : List (Nat × Nat)} {S : bS} {hp hp1 : amH} (hS : bRS n ρ S hp) (hf : bFr W hp hp1) {c : Option bY × List bFa} {w : Option Value} (h1 : bRo n c.1 w) (h2 : bFacts hp1 c.2) : ∃ ρ', ρ <+: ρ' ∧ bRS n ρ' (bCase W S c).2 hp1 ∧ bRv n ρ' (bCase W S c).1 w := by
  obtain ⟨ρ1, g1, g2, g3⟩ := bRes_s (n := n) hS.1 h1
  unfold bCase
  split
  next v E1 e1 =>
  rw [e1] at g2 g3
  obtain ⟨ρ2, k1, k2, k3⟩ := bAddF_s (n := n) (F := bFwo W S.2.1) (hp := hp1) g2 (fun f hf2 => by
    obtain ⟨m1, m2⟩ := bFwo_s hf2
    obtain ⟨u, u1, u2⟩ := hS.2.1 f m1
    exact ⟨u, by rw [hf _ _ m2]; exact u1, bR_mono g1 u2⟩) h2
  split
  next E2 F2 e2 =>
  rw [e2] at k2 k3
  have h4 := bRS_ext (g1.trans k1) hS k2
  refine ⟨ρ2, g1.trans k1, ⟨k2, k3, h4.2.2⟩, ?_⟩
  match v, w, g3 with
  | none, none, _ => trivial
  | some v, some w, g3 => exact bR_mono k1 g3
section BSN
variable {G : Nat → Option amM} {SP : Nat → List bSp} {T : Nat → Option bD} {n : Nat} {Wd W : List (Nat × Nat)} {P : amH → Prop}
theorem bRun_s (hn : n ≤ 999999) (hSP : ∀ k s, s ∈ SP k → bSem G P n T k s) (hPd : ∀ hp hp1, bFr Wd hp hp1 → P hp → P hp1) (hW : bWs Wd W = true) :
    ∀ (f d : Nat) (M : amM) (A : bAr) (cs : amP) (pc : Nat) (ls : bL) (st : List bV) (S : bS) (K : bK), bRun G SP T n Wd W f d M A cs pc ls st S K = true → cs <:+ M.1 →
    ∀ (ρ : List Nat) (cl : amL) (cst : List Value) (hp : amH) (Q : (Option Value ⊕ Nat) → amH → Prop), bRel n T ρ ls st S cl cst hp → P hp →
    (∀ x S1 ρ1 y hp1, K x S1 = true → bRx n ρ1 x y → bRS n ρ1 S1 hp1 → ρ <+: ρ1 → bHk n T hp1 → P hp1 → bFr W hp hp1 → Q y hp1) →
    (∀ pc1 chk ls1 st1 S1 ρ1 cl1 cst1 hp1, A pc1 = some chk → chk ls1 st1 S1 = true → bRel n T ρ1 ls1 st1 S1 cl1 cst1 hp1 → ρ <+: ρ1 → P hp1 → bFr W hp hp1 → ∀ cs0, cs0 <:+ M.1 → bWp G d M (amNext M cs0 pc1) pc1 cl1 cst1 hp1 Q) →
    bWp G d M cs pc cl cst hp Q := by
  intro f
  induction f with
  | zero => intro d M A cs pc ls st S K h; unfold bRun at h; cases h
  | succ f ih =>
    intro d M A cs pc ls st S K h hsuf ρ cl cst hp Q hr hP hK hA
    cases cs with
    | nil => unfold bRun at h; cases h
    | cons q cs =>
      have hsuf2 : cs <:+ M.1 := (List.suffix_cons q cs).trans hsuf
      -- what goes on behind an instruction
      have next : ∀ (pc1 : Nat) (ls1 : bL) (st1 : List bV) (S1 : bS) (ρ1 : List Nat) (cl1 : amL) (cst1 : List Value) (hp1 : amH), (match A pc1 with
          | some chk => chk ls1 st1 S1
          | none => bRun G SP T n Wd W f d M A (aNext M cs pc1) pc1 ls1 st1 S1 K) = true → bRel n T ρ1 ls1 st1 S1 cl1 cst1 hp1 → ρ <+: ρ1 → P hp1 → bFr W hp hp1 → bWp G d M (amNext M cs pc1) pc1 cl1 cst1 hp1 Q := by
        intro pc1 ls1 st1 S1 ρ1 cl1 cst1 hp1 e hr1 hρ hP1 hf1
        split at e
        · next chk ec => exact hA _ _ _ _ _ _ _ _ _ ec e hr1 hρ hP1 hf1 cs hsuf2
        · next ec =>
          have e2 := aNext_suf (pc := pc1) hsuf2
          rw [aNext_eq] at e e2
          exact ih _ _ _ _ _ _ _ _ _ e e2 _ _ _ _ _ hr1 hP1 (fun x S2 ρ2 y hp2 k1 k2 k3 k4 k5 k6 k7 => hK x S2 ρ2 y hp2 k1 k2 k3 (hρ.trans k4) k5 k6 (hf1.trans k7))
            (fun pc2 chk ls2 st2 S2 ρ2 cl2 cst2 hp2 k1 k2 k3 k4 k5 k6 => hA pc2 chk ls2 st2 S2 ρ2 cl2 cst2 hp2 k1 k2 k3 (hρ.trans k4) k5 (hf1.trans k6))
      unfold bRun at h
      split at h
      · cases h
      · next e0 =>
        have e0 := Nat.eq_of_beq_eq_true e0
        subst e0
        split at h
        · cases h
        · next act ea =>
          split at h
          · cases h
          · next L eL =>
            obtain ⟨r, e1, g, hg, ρ1, h1, h2, h3, h4⟩ := bActI_k (n := n) (G := G) hn ea ls st S L ρ cl cst hp eL hr
            have e1 := amU_s e1
            have h5 := lAll_m h g hg
            refine bWp_step e1 ?_
            rw [h2] at h5
            exact next _ _ _ _ _ _ _ _ h5 h3 h1 (hPd _ _ h4 hP) (bFr_mono hW h4)
        · next rt ea =>
          split at h
          · next v ev =>
            obtain ⟨w, w1, w2⟩ := bActI_r (n := n) (G := G) ea hr.2.2.1.1 ev hr.2.1
            exact bWp_ret (w2 cl hp) (hK _ _ ρ _ _ h w1 hr.2.2.1 (List.prefix_refl _) hr.2.2.2 hP (bFr.refl _ _))
          · cases h
        · next E ea =>
          split at h
          · next e8 => exact bWp_thr (bActI_t ea (a_le e8) hr.2.1 cl hp) (hK _ _ ρ _ _ h rfl hr.2.2.1 (List.prefix_refl _) hr.2.2.2 hP (bFr.refl _ _))
          · cases h
        · next k ea =>
          split at h
          · cases h
          · next d' =>
            split at h
            · cases h
            · next N hN =>
              split at h
              · cases h
              · next ar har =>
                obtain ⟨cav, crest, c1, c2, c3⟩ := bCArgs_s (av := ar.1) (rest := ar.2) hN har hr.1 hr.2.1 hr.2.2.2
                have hdo := (bActI_c (G := G) ea cl cst hp).trans c1
                split at h
                · refine bWp_call hdo hN ?_
                  refine ih _ _ _ _ _ _ _ _ _ h (List.suffix_refl _) ρ _ _ _ _ ⟨bInit_l c2, trivial, hr.2.2.1, hr.2.2.2⟩ hP ?_ (fun pc1 chk ls1 st1 S1 ρ1 cl1 cst1 hp1 z => by cases z)
                  intro x S1 ρ1 y hp1 k1 k2 k3 k4 k5 k6 k7
                  match x, y, k2 with
                  | .inl v, .inl w, k2 =>
                    exact next _ _ _ _ _ _ _ _ k1 ⟨bRl_mono k4 hr.1, bCons_s k2 (bRs_mono k4 c3), k3, k5⟩ k4 k6 k7
                  | .inr E, .inr E', k2 =>
                    have k2 : E = E' := k2
                    subst k2
                    dsimp only at k1 ⊢
                    split at k1
                    · cases k1
                    · next em =>
                      split at k1
                      · next eh => exact ⟨em, eh, hK _ _ ρ1 _ _ k1 rfl k3 k4 k5 k6 k7⟩
                      · cases k1
                · next s0 ss esp =>
                  split at h
                  · cases h
                  · next s es =>
                    obtain ⟨p1, p2, p3⟩ := bPick_s es
                    split at h
                    · cases h
                    · next ed =>
                      split at h
                      · cases h
                      · next ew =>
                        split at h
                        · cases h
                        · next ec =>
                          obtain ⟨N', hN', hsem⟩ := hSP q.2.2.1 s (by rw [esp]; exact p1)
                          rw [hN] at hN'
                          cases hN'
                          have hw := hsem cav hp hr.2.2.2 hP (bArLe_s hr.2.2.1.1 p2 c2) (bFaAll_s hr.2.2.1 hr.2.2.2 p3)
                          refine bWp_call hdo hN (bWp_mono (bWp_deep hw (a_le ed)) ?_)
                          intro y hp1 ⟨k5, k6, k7, k8⟩
                          have k9 := bFr_mono ew k7
                          cases y with
                          | inl w =>
                            obtain ⟨c, hc, m1, m2⟩ := k8
                            obtain ⟨ρ1, k4, k3, k2⟩ := bCase_s (n := n) (ρ := ρ) (W := s.2.2.2.1) hr.2.2.1 k7 m1 m2
                            have h6 := lAll_m ec c hc
                            dsimp only at h6 ⊢
                            exact next _ _ _ _ _ _ _ _ h6 ⟨bRl_mono k4 hr.1, bCons_s k2 (bRs_mono k4 c3), k3, k5⟩ k4 k6 k9
                          | inr E =>
                            have k8 : E ∈ s.2.2.2.2.1 := k8
                            split at h
                            · next e9 => rw [e9] at k8; cases k8
                            · next E0 Es e9 =>
                              split at h
                              · cases h
                              · next em =>
                                split at h
                                · next eh =>
                                  have h6 := lAll_m h E (by rw [← e9]; exact k8)
                                  refine ⟨em, eh, hK _ _ ρ _ _ h6 rfl ⟨hr.2.2.1.1, fun f hf => ?_, hr.2.2.1.2.2⟩ (List.prefix_refl _) k5 k6 k9⟩
                                  obtain ⟨m1, m2⟩ := bFwo_s hf
                                  obtain ⟨u, u1, u2⟩ := hr.2.2.1.2.1 f m1
                                  exact ⟨u, by rw [k7 _ _ m2]; exact u1, u2⟩
                                · cases h
end BSN
