/-! ===== the law's beginning: then the loop ===== -/
noncomputable def aStp2 (G : Nat → Option amM) (KS : Nat → aL → List aV → aH → Nat → Nat → Bool) (sp : Option Nat) (sc : Option (List Int32)) (d : Nat) (M : amM) (R : Nat → Option amRes) : Prop :=
  ∃ (f1 : Nat) (cs1 : amP) (pc1 : Nat) (ls1 : aL) (st1 : List aV) (hp1 : aH) (kc1 ks1 : Nat) (cl1 : amL) (cst1 : List Value) (ch1 : amH), sp = some pc1 ∧ (∃ q r, cs1 = q :: r ∧ q.1 = pc1) ∧ cs1 <:+ M.1 ∧ KS f1 ls1 st1 hp1 kc1 ks1 = true ∧ aRl ls1 cl1 ∧ aRs st1 cst1 ∧ aRh hp1 ch1 ∧ ∀ e, R e = amRun G sc (f1 + e) d M cs1 pc1 cl1 cst1 ch1 kc1 ks1
noncomputable def aPs (G : Nat → Option amM) (KS : Nat → aL → List aV → aH → Nat → Nat → Bool) (K : aX → aH → Nat → Nat → Bool) (sp : Option Nat) (sc : Option (List Int32)) (d : Nat) (M : amM) (R : Nat → Option amRes) : Prop := aFin G K (R 0) ∨ aStp2 G KS sp sc d M R
theorem aRun_s2 {G : Nat → Option amM} {KS : Nat → aL → List aV → aH → Nat → Nat → Bool} : ∀ (f : Nat) (sc' : Option (List aV)) (sp : Option Nat) (d : Nat) (M : amM) (cs : amP) (pc : Nat) (ls : aL) (st : List aV) (hp : aH) (kc ks : Nat) (K : aX → aH → Nat → Nat → Bool) (sc : Option (List Int32)) (cl : amL) (cst : List Value) (ch : amH), aRun G KS f sc' sp d M cs pc ls st hp kc ks K = true → aRsc sc' sc → cs <:+ M.1 → aRl ls cl → aRs st cst → aRh hp ch →
    aPs G KS K sp sc d M (fun e => amRun G sc (f + e) d M cs pc cl cst ch kc ks) := by
  intro f
  induction f with
  | zero => intro sc' sp d M cs pc ls st hp kc ks K sc cl cst ch h; unfold aRun at h; cases h
  | succ f ih =>
    intro sc' sp d M cs pc ls st hp kc ks K sc cl cst ch h hsc hsuf hl hs hh
    cases cs with
    | nil => unfold aRun at h; cases h
    | cons q cs =>
      have hsuf2 : cs <:+ M.1 := (List.suffix_cons q cs).trans hsuf
      unfold aRun at h
      split at h
      · cases h
      · next e0 =>
        have e0 := Nat.eq_of_beq_eq_true e0
        subst e0
        split at h
        · next es =>
          refine Or.inr ⟨f + 1, q :: cs, q.1, ls, st, hp, kc, ks, cl, cst, ch, ?_, ⟨q, cs, rfl, rfl⟩, hsuf, h, hl, hs, hh, fun e => rfl⟩
          cases sp with
          | none => cases es
          | some p => rw [show q.1 = p from Nat.eq_of_beq_eq_true es]
        · split at h
          · cases h
          · next act ea =>
            obtain ⟨r, ls', st', hp', e1, e2, l1, l2, l3⟩ := aDoT_k (G := G) hsc ea h hl hs hh
            have hr : (fun e => amRun G sc (f + 1 + e) d M (q :: cs) q.1 cl cst ch kc ks) = (fun e => amRun G sc (f + e) d M (amNext M cs r.1) r.1 r.2.1 r.2.2.1 r.2.2.2 kc ks) := by
              funext e
              rw [show f + 1 + e = f + e + 1 by omega]
              simp only [amRun, if_true, e1, Nat.add_zero]
            rw [hr, ← aNext_eq]
            exact ih _ _ _ _ _ _ _ _ _ _ _ _ _ _ _ _ e2 hsc (aNext_suf hsuf2) l1 l2 l3
          · next act ea =>
            obtain ⟨r, dk, ds, ls', st', hp', e1, e2, l1, l2, l3⟩ := aDoS_m (G := G) (sc := sc) (aDoT_s ea) _ _ _ _ _ _ _ h hl hs hh
            have hr : (fun e => amRun G sc (f + 1 + e) d M (q :: cs) q.1 cl cst ch kc ks) = (fun e => amRun G sc (f + e) d M (amNext M cs r.1) r.1 r.2.1 r.2.2.1 r.2.2.2 (kc + dk) (ks + ds)) := by
              funext e
              rw [show f + 1 + e = f + e + 1 by omega]
              simp only [amRun, if_true, e1]
            rw [hr, ← aNext_eq]
            exact ih _ _ _ _ _ _ _ _ _ _ _ _ _ _ _ _ e2 hsc (aNext_suf hsuf2) l1 l2 l3
          · next rt ea =>
            split at h
            · next v ev =>
              obtain ⟨w, w1, w2⟩ := aDoS_r (G := G) (sc := sc) (aDoT_s ea) ev hs
              refine Or.inl ⟨.inl v, hp, kc, ks, .inl w, ch, ?_, w1, hh, h⟩
              simp only [amRun, if_true, w2]
            · cases h
          · next E ea =>
            split at h
            · next e8 =>
              have w2 := aDoS_t (G := G) (sc := sc) (aDoT_s ea) (a_le e8) hs cl ch
              refine Or.inl ⟨.inr E, hp, kc + 1, ks + 6, .inr E, ch, ?_, rfl, hh, h⟩
              simp only [amRun, if_true, w2]
            · cases h
          · next o ea =>
            split at h
            · cases h
            · next d' =>
              split at h
              · cases h
              · next N hN =>
                split at h
                · cases h
                · next ar har =>
                  obtain ⟨cav, crest, c1, c2, c3⟩ := aArgs_s (av := ar.1) (rest := ar.2) hN har hl hs hh
                  have hdo := (aDoS_c (G := G) (sc := sc) (aDoT_s ea) cl cst ch).trans c1
                  have inner := ih _ _ _ _ _ _ _ _ _ _ _ _ none _ _ _ h trivial (List.suffix_refl _) (aInit_l c2) (show aRs [] [] from trivial) hh
                  rcases inner with ⟨x, ah, mc, ms, y, h1, r1, r2, r3, r4⟩ | ⟨f1, cs1, pc1, ls1, st1, hp1, kc1, ks1, cl1, cst1, ch1, z, -⟩
                  · have r1 : amRun G none f d' N N.1 0 (lv_args 0 cav) [] ch 0 0 = some (y, h1, mc, ms) := r1
                    dsimp only at r4
                    split at r4
                    · next v =>
                      cases y with
                      | inr E => cases r2
                      | inl w =>
                        have hr : (fun e => amRun G sc (f + 1 + e) (d' + 1) M (q :: cs) q.1 cl cst ch kc ks) = (fun e => amRun G sc (f + e) (d' + 1) M (amNext M cs (q.1 + 3)) (q.1 + 3) cl (w.toList ++ crest) h1 (kc + mc) (ks + ms)) := by
                          funext e
                          rw [show f + 1 + e = f + e + 1 by omega]
                          have r1 := amRun_more _ _ _ _ _ _ _ _ _ _ _ _ r1 (f + e) d' (Nat.le_add_right f e) (Nat.le_refl _)
                          simp only [amRun, if_true, hdo, hN, r1]
                        rw [hr, ← aNext_eq]
                        exact ih _ _ _ _ _ _ _ _ _ _ _ _ _ _ _ _ r4 hsc (aNext_suf hsuf2) hl (aCons_s r2 c3) r3
                    · next E =>
                      cases y with
                      | inl w => cases r2
                      | inr E' =>
                        have r2 : E = E' := r2
                        subst r2
                        split at r4
                        · cases r4
                        · next em =>
                          split at r4
                          · next eh =>
                            refine Or.inl ⟨.inr E, ah, kc + mc, ks + ms, .inr E, h1, ?_, rfl, r3, r4⟩
                            simp only [amRun, if_true, hdo, hN, r1, em, eh]
                            rfl
                          · next hh1 hhs eh =>
                            split at r4
                            · next s9 y9 to9 ey =>
                              split at r4
                              · next l1 el =>
                                have hr : (fun e => amRun G sc (f + 1 + e) (d' + 1) M (q :: cs) q.1 cl cst ch kc ks) = (fun e => amRun G sc (f + e) (d' + 1) M (amSeek M.1 to9) to9 (amDrop cl y9) [] h1 (kc + mc) (ks + ms)) := by
                                  funext e
                                  rw [show f + 1 + e = f + e + 1 by omega]
                                  have r1 := amRun_more _ _ _ _ _ _ _ _ _ _ _ _ r1 (f + e) d' (Nat.le_add_right f e) (Nat.le_refl _)
                                  simp only [amRun, if_true, hdo, hN, r1, em, eh, ey]
                                  rfl
                                rw [hr, ← aSeek_eq]
                                exact ih _ _ _ _ _ _ _ _ _ _ _ _ _ _ _ _ r4 hsc (by rw [aSeek_eq]; exact List.dropWhile_suffix _) (aDrop_s hl el) (show aRs [] [] from trivial) r3
                              · cases r4
                            · cases r4
                  · cases z
noncomputable def aUp : amP → Bool
  | [] => true
  | q :: r => (match r with
    | [] => true
    | z :: _ => Nat.ble (q.1 + 1) z.1) && aUp r
theorem aUp_all : ∀ {q : Nat × amIn1} {r : amP}, aUp (q :: r) = true → ∀ z ∈ r, q.1 < z.1
  | q, [], _, z, hz => by cases hz
  | q, y :: r, h, z, hz => by
    unfold aUp at h
    rw [Bool.and_eq_true] at h
    have h1 : q.1 < y.1 := a_lt1 h.1
    rcases List.mem_cons.mp hz with rfl | hz
    · exact h1
    · exact Nat.lt_trans h1 (aUp_all h.2 z hz)
theorem aUp_tail {q : Nat × amIn1} {r : amP} (h : aUp (q :: r) = true) : aUp r = true := by
  unfold aUp at h
  rw [Bool.and_eq_true] at h
  exact h.2
theorem aUp_seek : ∀ {L : amP} {q : Nat × amIn1} {r : amP}, aUp L = true → (q :: r) <:+ L → aSeek L q.1 = q :: r
  | [], q, r, _, h => by
    have := List.suffix_nil.mp h
    cases this
  | a :: L, q, r, hu, h => by
    unfold aSeek
    rcases List.suffix_cons_iff.mp h with e | e
    · cases e
      rw [Nat.beq_refl]
    · have hlt := aUp_all hu q (e.subset List.mem_cons_self)
      have : Nat.beq a.1 q.1 = false := by
        cases hb : Nat.beq a.1 q.1 with
        | false => rfl
        | true => have := Nat.eq_of_beq_eq_true hb; omega
      rw [this]
      exact aUp_seek (aUp_tail hu) e
theorem a_up : aUp am_mL.1 = true := by decide +kernel
