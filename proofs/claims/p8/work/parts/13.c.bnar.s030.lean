theorem bCond_s {n : Nat} {ρ : List Nat} {S : bS} {hp : amH} (hS : bRS n ρ S hp) {c : Jvm.ClassFile.Cond} {u v : bV} {x y : Int32} (hu : bR n ρ u (.int x)) (hv : bR n ρ v (.int y)) (h : amCmpP c x y = true) : ∃ S', bCond c S u v = some S' ∧ bRS n ρ S' hp := by
  have h1 := bNum_s hu
  have h2 := bNum_s hv
  cases c <;> simp only [amCmpP, decide_eq_true_eq] at h <;> unfold bCond <;> dsimp only
  · subst h
    obtain ⟨S1, e1, g1⟩ := bLqS_s hS h1 h2 (Nat.le_refl _)
    rw [e1]
    exact bLqS_s g1 h2 h1 (Nat.le_refl _)
  · have h3 : ¬ aOff x + bB = aOff y + bB := fun z => h (bOff_inj (by omega))
    obtain ⟨S1, e1, g1⟩ := bNe_s hS h1 h2 h3
    rw [e1]
    exact bNe_s g1 h2 h1 (fun z => h3 z.symm)
  · exact bLqS_s hS (bSh_s h1) h2 (by have := bOff_lt.mp h; omega)
  · exact bLqS_s hS h2 h1 (by have := bOff_le2.mp h; omega)
  · exact bLqS_s hS (bSh_s h2) h1 (by have := bOff_lt.mp h; omega)
  · exact bLqS_s hS h1 h2 (by have := bOff_le2.mp h; omega)
