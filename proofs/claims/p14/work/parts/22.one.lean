/-! ===== the law, run on every script of at most 3,072 ints, answers 1 ===== -/
theorem h_lk {cl : amL} (h : aRl a_ls1 cl) : lk cl [some (.ref amS), some (.ref 0), some (.ref 66), some (.ref 83), some (.int 0)] := by
  have hz : ∀ w, aR (.inr (2147483648, 2147483648)) w → w = .int 0 := fun w hw => by
    obtain ⟨x, rfl, x1, x2⟩ := hw
    rw [show x = 0 from Int32.toInt_inj.mp (by rw [show (0 : Int32).toInt = 0 by decide]; omega)]
  have hv : ∀ k v, lGet a_ls1 k = some v → (k = 0 ∧ v = .inl (.ref amS)) ∨ (k = 1 ∧ v = .inl (.ref 0)) ∨ (k = 2 ∧ v = .inl (.ref 66)) ∨ (k = 3 ∧ v = .inl (.ref 83)) ∨ (k = 4 ∧ v = .inr (2147483648, 2147483648)) := by
    intro k v e
    match k, e with
    | 0, e => cases e; exact Or.inl ⟨rfl, rfl⟩
    | 1, e => cases e; exact Or.inr (Or.inl ⟨rfl, rfl⟩)
    | 2, e => cases e; exact Or.inr (Or.inr (Or.inl ⟨rfl, rfl⟩))
    | 3, e => cases e; exact Or.inr (Or.inr (Or.inr (Or.inl ⟨rfl, rfl⟩)))
    | 4, e => cases e; exact Or.inr (Or.inr (Or.inr (Or.inr ⟨rfl, rfl⟩)))
    | 5, e => cases e
    | 6, e => cases e
    | 7, e => cases e
    | 8, e => cases e
    | n + 9, e => cases e
  refine ⟨List.all_eq_true.mpr (fun q hq => ?_), fun k v e => ?_⟩
  · obtain ⟨v, g1, g2⟩ := h.2 q hq
    rcases hv _ _ g1 with ⟨-, rfl⟩ | ⟨-, rfl⟩ | ⟨-, rfl⟩ | ⟨-, rfl⟩ | ⟨-, rfl⟩
    · rw [show q.2 = .ref amS from g2]; decide
    · rw [show q.2 = .ref 0 from g2]; decide
    · rw [show q.2 = .ref 66 from g2]; decide
    · rw [show q.2 = .ref 83 from g2]; decide
    · rw [hz _ g2]; rfl
  · match k, e with
    | 0, e =>
      cases e
      obtain ⟨w, w1, w2⟩ := h.1 0 (.inl (.ref amS)) rfl
      exact ⟨rfl, by rw [w1, show w = .ref amS from w2]⟩
    | 1, e =>
      cases e
      obtain ⟨w, w1, w2⟩ := h.1 1 (.inl (.ref 0)) rfl
      exact ⟨rfl, by rw [w1, show w = .ref 0 from w2]⟩
    | 2, e =>
      cases e
      obtain ⟨w, w1, w2⟩ := h.1 2 (.inl (.ref 66)) rfl
      exact ⟨rfl, by rw [w1, show w = .ref 66 from w2]⟩
    | 3, e =>
      cases e
      obtain ⟨w, w1, w2⟩ := h.1 3 (.inl (.ref 83)) rfl
      exact ⟨rfl, by rw [w1, show w = .ref 83 from w2]⟩
    | 4, e =>
      cases e
      obtain ⟨w, w1, w2⟩ := h.1 4 (.inr (2147483648, 2147483648)) rfl
      exact ⟨rfl, by rw [w1, hz w w2]⟩
    | n + 5, e => cases e
theorem am_one {sc : List Int32} (hlen : sc.length ≤ 3072) : ∃ (F : Nat) (h' : amH) (mc ms : Nat), amRun amGG (some sc) F 600 am_mL am_mL.1 0 [(0, .ref amS)] [] [] 0 0 = some (.inl (some (.int 1)), h', mc, ms) ∧ mc ≤ 600000 ∧ ms ≤ 7000000 := by
  have r0 : aRl a_ls0 [(0, .ref amS)] := aInit_l (n := 9) (av := [.inl (.ref amS)]) (cav := [.ref amS]) ⟨rfl, trivial⟩
  have h0 : aRh a_h00 [] := ⟨rfl, fun j hj => absurd hj (Nat.not_lt_zero _)⟩
  rcases aRun_s2 _ _ _ _ _ _ _ _ _ _ _ _ _ (some sc) _ _ _ a_run1 trivial (List.suffix_refl _) r0 (show aRs [] [] from trivial) h0 with ⟨x, ah, mc, ms, y, h', e1, e2, e3, e4⟩ | ⟨f1, cs1, pc1, ls1, st1, hp1, kc1, ks1, cl1, cst1, ch1, z, ⟨q, r, rfl, hq⟩, suf, ek, rl, rs, rh, eR⟩
  · cases e4
  · cases z
    obtain ⟨rfl, rfl, rfl, rfl, rfl, rfl⟩ := aKS_s ek
    cases aRs_nil rs
    have hc := aUp_seek a_up suf
    rw [hq] at hc
    obtain ⟨f, y, hp2, mc, ms, run, rfl, hmc, hms⟩ := c_loopJ (sc := sc) (by omega) 512 0 ch1 (by decide) (by decide) (by rw [show (0 : Int32).toInt = 0 by decide]; omega) (h_lawJ0 rh) cl1 (h_lk rl) 84 9387
    refine ⟨100000 + f, hp2, 84 + mc, 9387 + ms, ?_, by omega, by omega⟩
    have e := eR f
    dsimp only at e
    rw [e, ← hc, aSeek_eq]
    exact amRun_more _ _ _ _ _ _ _ _ _ _ _ _ run _ _ (by omega) (Nat.le_refl _)
