/-! ===== the reference: what is shown, together ===== -/
theorem bQ0_s : bSems amGG P0 84 bTT bQ0 := by
  intro e he
  simp only [bQ0, List.mem_cons, List.not_mem_nil, or_false] at he
  rcases he with rfl | rfl | rfl | rfl | rfl
  · exact h221_s
  · exact h234_s
  · exact h211_s
  · exact h204_s
  · exact h203_s
theorem bQ1_s : bSems amGG P0 84 bTT bQ1 := by
  rw [← bQ1_eq]
  exact bAll2_s (by decide) P0_fr bR1_ok bQ0_s
theorem bQ2_s : bSems amGG P0 84 bTT bQ2 := by
  rw [← bQ2_eq]
  exact bAll2_s (by decide) P0_fr bR2_ok bQ1_s
theorem bQ3_s : bSems amGG P0 84 bTT bQ3 := by
  rw [← bQ3_eq]
  exact bAll2_s (by decide) P0_fr bR3_ok bQ2_s
theorem bQ4_s : bSems amGG P0 84 bTT bQ4 := by
  rw [← bQ4_eq]
  exact bAll2_s (by decide) P0_fr bR4_ok bQ3_s
theorem bQ5_s : bSems amGG P0 84 bTT bQ5 := by
  rw [← bQ5_eq]
  exact bAll2_s (by decide) P0_fr bR5_ok bQ4_s
theorem bQ6_s : bSems amGG P0 84 bTT bQ6 := by
  rw [← bQ6_eq]
  exact bAll2_s (by decide) P0_fr bR6_ok bQ5_s
