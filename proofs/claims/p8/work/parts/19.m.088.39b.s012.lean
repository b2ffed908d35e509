theorem rpv_s (T : sT) (n k : Nat) : rpv T n (6 * k) = c3 T ((qL T n).getD k 0) 0 ∧ rpv T n (6 * k + 1) = c3 T ((qL T n).getD k 0) 1 ∧ rpv T n (6 * k + 2) = c3 T ((qL T n).getD k 0) 2 ∧ rpv T n (6 * k + 3) = oppQ T n (c3 T ((qL T n).getD k 0) 0) ∧ rpv T n (6 * k + 4) = oppQ T n (c3 T ((qL T n).getD k 0) 1) ∧ rpv T n (6 * k + 5) = oppQ T n (c3 T ((qL T n).getD k 0) 2) := by
  unfold rpv
  refine ⟨?_, ?_, ?_, ?_, ?_, ?_⟩
  · rw [show 6 * k % 6 = 0 by omega, show 6 * k / 6 = k by omega, if_pos (by omega)]
  · rw [show (6 * k + 1) % 6 = 1 by omega, show (6 * k + 1) / 6 = k by omega, if_pos (by omega)]
  · rw [show (6 * k + 2) % 6 = 2 by omega, show (6 * k + 2) / 6 = k by omega, if_pos (by omega)]
  · rw [show (6 * k + 3) % 6 = 3 by omega, show (6 * k + 3) / 6 = k by omega, if_neg (by omega)]
  · rw [show (6 * k + 4) % 6 = 4 by omega, show (6 * k + 4) / 6 = k by omega, if_neg (by omega)]
  · rw [show (6 * k + 5) % 6 = 5 by omega, show (6 * k + 5) / 6 = k by omega, if_neg (by omega)]
