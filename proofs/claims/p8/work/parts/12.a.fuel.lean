/-! ===== runs with more steps, deeper calls, other counts ===== -/
theorem amRun_more {G : Nat → Option amM} : ∀ (f : Nat) (sc : Option (List Int32)) (d : Nat) (M : amM) (cs : amP) (pc : Nat) (ls : amL) (st : List Value) (hp : amH) (kc ks : Nat) (r : amRes), amRun G sc f d M cs pc ls st hp kc ks = some r → ∀ (g e : Nat), f ≤ g → d ≤ e → amRun G sc g e M cs pc ls st hp kc ks = some r := by
  intro f
  induction f with
  | zero => intro sc d M cs pc ls st hp kc ks r h; unfold amRun at h; cases h
  | succ f ih =>
    intro sc d M cs pc ls st hp kc ks r h g e hg he
    obtain ⟨g, rfl⟩ : ∃ g', g = g' + 1 := ⟨g - 1, by omega⟩
    have hg : f ≤ g := by omega
    cases cs with
    | nil => unfold amRun at h; cases h
    | cons q cs =>
      unfold amRun at h
      unfold amRun
      split at h
      · next e0 =>
        try rw [if_pos e0]
        split at h
        · cases h
        · next r1 dk ds e1 =>
          try rw [e1]
          exact ih _ _ _ _ _ _ _ _ _ _ _ h g e hg he
        · next v e1 => exact h
        · next E e1 => exact h
        · next k av rest e1 =>
          try rw [e1]
          try dsimp only
          cases d with
          | zero => cases h
          | succ d =>
            obtain ⟨e, rfl⟩ : ∃ e', e = e' + 1 := ⟨e - 1, by omega⟩
            cases hG : G k with
            | none => rw [hG] at h; cases h
            | some N =>
              rw [hG] at h
              dsimp only at h ⊢
              cases hi : amRun G none f d N N.1 0 (lv_args 0 av) [] hp 0 0 with
              | none => rw [hi] at h; cases h
              | some z =>
                have hz := ih _ _ _ _ _ _ _ _ _ _ _ hi g e hg (by omega)
                rw [hi] at h
                rw [hz]
                obtain ⟨y, hp1, mc, ms⟩ := z
                cases y with
                | inl v => exact ih _ _ _ _ _ _ _ _ _ _ _ h g (e + 1) hg he
                | inr E =>
                  dsimp only at h ⊢
                  split at h
                  · cases h
                  · next e2 =>
                    try rw [if_neg e2]
                    split at h
                    · next e3 => first | exact h | (rw [if_pos e3]; exact h)
                    · next e3 =>
                      try rw [if_neg e3]
                      split at h
                      · next s9 x9 t9 e4 => exact ih _ _ _ _ _ _ _ _ _ _ _ h g (e + 1) hg he
                      · cases h
      · cases h
