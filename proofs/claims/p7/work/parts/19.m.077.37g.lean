/-! ===== one triple more (pure) ===== -/
theorem take_put {V : Nat} {T : sT} (hT : sOk V T) {x y z : Nat} (hf : sFree T x y z) : sTake (sPut T x y z) x y z = T := by
  funext u v
  unfold sTake
  by_cases h : sPr x y z u v
  · rw [if_pos h]
    obtain ⟨f1, f2, f3⟩ := hf
    have s1 := sy_free hT f1
    have s2 := sy_free hT f2
    have s3 := sy_free hT f3
    obtain ⟨d, a, b⟩ := h
    rcases a with rfl | rfl | rfl <;> rcases b with rfl | rfl | rfl <;> first | exact absurd rfl d | (symm; assumption)
  · rw [if_neg h]
    unfold sPut
    rw [if_neg h]
theorem len_put {V : Nat} {T : sT} (hT : sOk V T) {x y z : Nat} (hx : x < V) (hy : y < V) (hz : z < V) (hxy : ¬ x = y) (hyz : ¬ y = z) (hxz : ¬ x = z) (hf : sFree T x y z) : (trL (sPut T x y z) 225).length = (trL T 225).length + 1 := by
  have h1 := sOk_put hT hx hy hz hxy hyz hxz hf
  have e : sPut T x y z x y = (z : Int) := by
    unfold sPut
    rw [if_pos ⟨hxy, by simp, by simp⟩]
    omega
  have := len_take h1 e
  rw [take_put hT hf] at this
  exact this
