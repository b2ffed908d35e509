/-! ===== points of a set counted; pairs that no triple covers counted ===== -/
theorem sm_tail {f : Nat → Nat} {V n : Nat} (hV : V ≤ n) (h : ∀ i, V ≤ i → i < n → f i = 0) : sm f n = sm f V := by
  have s := sm_split f V (n - V)
  rw [show V + (n - V) = n by omega, sm_none (f := fun j => f (V + j)) (fun j hj => h (V + j) (by omega) (by omega))] at s
  exact s
