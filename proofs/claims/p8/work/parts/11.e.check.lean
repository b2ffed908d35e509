/-! ===== the tables checked, 4 ===== -/
theorem am_f384 : fM amXX amGG am_V am_W16 am_n384 am_m384 am_h384 am_g384 = true := by decide +kernel
theorem am_t8 : ∀ t ∈ [(am_n384, am_m384)], amMk amGG amXX t.1 t.2 := by
  intro t ht
  simp only [List.mem_cons, List.not_mem_nil, or_false] at ht
  rcases ht with rfl
  · exact fM_s am_zz am_rq (o := 16) rfl am_v am_w16 am_f384
