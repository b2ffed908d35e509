/-! ===== the tables checked, 8 ===== -/
theorem am_c384 : amCode amGG amXX am_n384.1.cls am_n384.2.1 am_m384.2.2.2.1 am_m384.1 am_h384 = true := by decide +kernel
theorem am_k384 : amMkB am_n384 am_m384 am_g384 = true := by decide +kernel
theorem am_t8 : ∀ t ∈ [(am_n384, am_m384)], amMk amGG amXX t.1 t.2 := by
  intro t ht
  simp only [List.mem_cons, List.not_mem_nil, or_false] at ht
  rcases ht with rfl
  · exact amMkB_s am_k384 am_c384
