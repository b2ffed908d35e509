theorem lPut_ex {α : Type} : ∀ {l : List α} {i : Nat} {o : α} (v : α), l[i]? = some o → ∃ l', lPut l i v = some l'
  | u :: r, 0, _, v, _ => ⟨v :: r, rfl⟩
  | u :: r, i + 1, o, v, h => by
    obtain ⟨l', e⟩ := lPut_ex (l := r) (i := i) v (by simpa using h)
    exact ⟨u :: l', by unfold lPut; rw [e]⟩
