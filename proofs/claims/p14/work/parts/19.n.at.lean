/-! ===== the law's loop: where an instruction stands; what a round is ===== -/
theorem bUp_ge : ∀ {L : amP} {k : Nat}, bUp k L = true → ∀ q ∈ L, k ≤ q.1
  | [], _, _, q, h => by cases h
  | p :: r, k, h, q, hq => by
    unfold bUp at h
    split at h
    · next e =>
      have e := Nat.le_of_ble_eq_true e
      rcases List.mem_cons.mp hq with rfl | hq
      · exact e
      · have h : bUp (p.1 + 1) r = true := h
        have := bUp_ge h q hq
        omega
    · cases h
theorem seek_mem : ∀ {L : amP} {k : Nat} {q : Nat × amIn1}, bUp k L = true → q ∈ L → ∃ r, amSeek L q.1 = q :: r
  | [], _, q, _, h => by cases h
  | p :: r, k, q, h, hq => by
    have h0 := h
    unfold bUp at h
    split at h
    · next e =>
      have h : bUp (p.1 + 1) r = true := h
      by_cases e1 : q = p
      · subst e1
        refine ⟨r, ?_⟩
        unfold amSeek
        rw [List.dropWhile_cons_of_neg (by simp)]
      · have hq2 : q ∈ r := (List.mem_cons.mp hq).resolve_left e1
        have hne : ¬ p.1 = q.1 := by have := bUp_ge h q hq2; omega
        obtain ⟨r', hr⟩ := seek_mem h hq2
        refine ⟨r', ?_⟩
        unfold amSeek at hr ⊢
        rw [List.dropWhile_cons_of_pos (by simpa using hne)]
        exact hr
    · cases h
theorem uL : bUp 0 am_mL.1 = true := by decide +kernel
theorem lIm {pc a b : Nat} {i : Instr} (h : (pc, i, a, b) ∈ am_mL.1) : xI am_mL pc i a b := ⟨uL, seek_mem uL h⟩
theorem lI0 (n : Nat) {pc a b : Nat} {i : Instr} (h : am_mL_0[n]? = some (pc, i, a, b)) : xI am_mL pc i a b := lIm (show _ ∈ am_mL_0 ++ (am_mL_1 ++ (am_mL_2 ++ (am_mL_3 ++ (am_mL_4 ++ am_mL_5)))) from List.mem_append_left _ (List.mem_of_getElem? h))
theorem lI1 (n : Nat) {pc a b : Nat} {i : Instr} (h : am_mL_1[n]? = some (pc, i, a, b)) : xI am_mL pc i a b := lIm (show _ ∈ am_mL_0 ++ (am_mL_1 ++ (am_mL_2 ++ (am_mL_3 ++ (am_mL_4 ++ am_mL_5)))) from List.mem_append_right _ (List.mem_append_left _ (List.mem_of_getElem? h)))
theorem lI2 (n : Nat) {pc a b : Nat} {i : Instr} (h : am_mL_2[n]? = some (pc, i, a, b)) : xI am_mL pc i a b := lIm (show _ ∈ am_mL_0 ++ (am_mL_1 ++ (am_mL_2 ++ (am_mL_3 ++ (am_mL_4 ++ am_mL_5)))) from List.mem_append_right _ (List.mem_append_right _ (List.mem_append_left _ (List.mem_of_getElem? h))))
theorem lI3 (n : Nat) {pc a b : Nat} {i : Instr} (h : am_mL_3[n]? = some (pc, i, a, b)) : xI am_mL pc i a b := lIm (show _ ∈ am_mL_0 ++ (am_mL_1 ++ (am_mL_2 ++ (am_mL_3 ++ (am_mL_4 ++ am_mL_5)))) from List.mem_append_right _ (List.mem_append_right _ (List.mem_append_right _ (List.mem_append_left _ (List.mem_of_getElem? h)))))
theorem lI4 (n : Nat) {pc a b : Nat} {i : Instr} (h : am_mL_4[n]? = some (pc, i, a, b)) : xI am_mL pc i a b := lIm (show _ ∈ am_mL_0 ++ (am_mL_1 ++ (am_mL_2 ++ (am_mL_3 ++ (am_mL_4 ++ am_mL_5)))) from List.mem_append_right _ (List.mem_append_right _ (List.mem_append_right _ (List.mem_append_right _ (List.mem_append_left _ (List.mem_of_getElem? h))))))
theorem lI5 (n : Nat) {pc a b : Nat} {i : Instr} (h : am_mL_5[n]? = some (pc, i, a, b)) : xI am_mL pc i a b := lIm (show _ ∈ am_mL_0 ++ (am_mL_1 ++ (am_mL_2 ++ (am_mL_3 ++ (am_mL_4 ++ am_mL_5)))) from List.mem_append_right _ (List.mem_append_right _ (List.mem_append_right _ (List.mem_append_right _ (List.mem_append_right _ (List.mem_of_getElem? h))))))
/-- it ends and says true, at most b throws -/
abbrev lQ (b : Nat) : cQ := fun y _ mc ms => y = .inl (some (.int 1)) ∧ mc ≤ b ∧ ms ≤ 6 * b
abbrev lV (sc : List Int32) (b pc : Nat) (i : Int32) (hp : amH) : Prop := cV (some sc) 600 am_mL pc [some (.ref amS), some (.ref 0), some (.ref 66), some (.ref 83), some (.int i)] [] hp (lQ b)
theorem aB {z : Int32} (h : z.toInt = 0 ∨ z.toInt = 1) : bYr 84 (.inl (2147483648, 2147483649)) (.int z) := by
  have := aOff_eq z
  exact ⟨z, rfl, by dsimp only; omega, by dsimp only; omega⟩
theorem a66r : bYr 84 (.inr (.inr [66])) (.ref 66) := a66
theorem bTd {t : Nat} {w : Value} (h : bT t w) (ht : t = 2) : ∃ x, w = .double x := by
  subst ht
  rcases h with ⟨h, -⟩ | ⟨-, x, h, -⟩ | ⟨h, -⟩ | ⟨h, -⟩ | ⟨h, -⟩
  · omega
  · exact ⟨x, h⟩
  · omega
  · omega
  · exact absurd h (by decide)
theorem bTf {t : Nat} {w : Value} (h : bT t w) (ht : t = 3) : ∃ x, w = .float x ∧ FP.Core.decode FP.Core.b32 x.toNat ≠ .nan := by
  subst ht
  rcases h with ⟨h, -⟩ | ⟨h, -⟩ | ⟨-, x, h, h2, -⟩ | ⟨h, -⟩ | ⟨h, -⟩
  · omega
  · omega
  · exact ⟨x, h, h2⟩
  · omega
  · exact absurd h (by decide)
theorem qK {d k : Nat} {av : List Value} {hp : amH} {S : cQ} {Φ : Int32 → amH → Prop} (h : ∀ R : xQ, (∀ z hp1, Φ z hp1 → R (.inl (some (.int z))) hp1) → xK d k av hp R) (hS : ∀ z hp1, Φ z hp1 → S (.inl (some (.int z))) hp1 0 0) : cK d k av hp S := by
  refine cK_mono (cK_of (h (fun y hp1 => ∃ z, y = .inl (some (.int z)) ∧ Φ z hp1) (fun z hp1 g => ⟨z, rfl, g⟩))) (fun y hp1 mc ms hh => ?_)
  obtain ⟨rfl, rfl, z, rfl, g⟩ := hh
  exact hS z hp1 g
