/-! ===== the law's helpers ===== -/
theorem bL1_s : bSems amGG P0 84 bTT bL1 := by rw [← bL1_eq]; exact bAll2_s (by decide) P0_fr bB1_ok (fun e he => by cases he)
theorem bL2_s : bSems amGG P0 84 bTT bL2 := by rw [← bL2_eq]; exact bAll2_s (by decide) P0_fr bB2_ok bL1_s
theorem bL3_s : bSems amGG P0 84 bTT bL3 := by rw [← bL3_eq]; exact bAll2_s (by decide) P0_fr bB3_ok bL2_s
theorem bL4_s : bSems amGG P0 84 bTT bL4 := by rw [← bL4_eq]; exact bAll2_s (by decide) P0_fr bB4_ok bL3_s
theorem bM4_s : bSems amGG P0 84 bTT bM4 := fun e he => by
  rcases List.mem_cons.mp (show e ∈ be_s38 :: bL4 from he) with rfl | h
  · exact be_s38_s bL4_s
  · exact bL4_s e h
theorem bL5_s : bSems amGG P0 84 bTT bL5 := by rw [← bL5_eq]; exact bAll2_s (by decide) P0_fr bB5_ok bM4_s
theorem bL6_s : bSems amGG P0 84 bTT bL6 := by rw [← bL6_eq]; exact bAll2_s (by decide) P0_fr bB6_ok bL5_s
theorem bM6_s : bSems amGG P0 84 bTT bM6 := fun e he => by
  rcases List.mem_cons.mp (show e ∈ be_s161 :: bL6 from he) with rfl | h
  · exact be_s161_s bL6_s
  · exact bL6_s e h
theorem bL7_s : bSems amGG P0 84 bTT bL7 := by rw [← bL7_eq]; exact bAll2_s (by decide) P0_fr bB7_ok bM6_s
theorem bL8_s : bSems amGG P0 84 bTT bL8 := by rw [← bL8_eq]; exact bAll2_s (by decide) P0_fr bB8_ok bL7_s
