/-! ===== the law's helpers (e) ===== -/
theorem u367 : bUp 0 am_m367.1 = true := by decide +kernel
theorem h367 {d : Nat} {hp : amH} {R : cQ} {x1 x2 x3 x4 : Int32} (hI : lawI hp) (hR : ∀ (z : Int32) hp1 mc ms, lawI hp1 → mc ≤ 1 → ms ≤ 6 → R (.inl (some (.int z))) hp1 mc ms) : cK (d + 20) 367 [.ref 0, .int x1, .int x2, .int x3, .int x4, .ref 83] hp R := by
  refine cin (M := am_m367) rfl rfl rfl ?_
  refine cald2 2 ⟨u367, _, rfl⟩ rfl rfl ?_
  refine ccst 3 (0) ⟨u367, _, rfl⟩ rfl (by decide) (fun z2 h2 => ?_)
  refine cald 4 ⟨u367, _, rfl⟩ rfl rfl ?_
  refine cild 5 ⟨u367, _, rfl⟩ rfl rfl ?_
  refine cild 6 ⟨u367, _, rfl⟩ rfl rfl ?_
  refine cild 7 ⟨u367, _, rfl⟩ rfl rfl ?_
  refine cild2 9 ⟨u367, _, rfl⟩ rfl rfl ?_
  refine ccall (kd := 0) (t := 3) [.ref 0, .int _, .int _, .int _, .int _] [.int _, .ref 83] hI.1 ⟨u367, _, rfl⟩ (Or.inl ⟨_, rfl, rfl, by decide, by decide⟩) rfl rfl rfl ⟨rfl, rfl, rfl⟩ rfl (recv0 hI.1 _) rfl (qI (bL8_s be_98 (List.mem_of_getElem? (i := 93) rfl)) (Nat.ble_eq.mpr (by show _ ≤ d + 19; exact Nat.le_trans (by decide : _ ≤ 19) (Nat.le_add_left 19 d))) hI ⟨a0r, ai _, ai _, ai _, ai _, trivial⟩ rfl rfl rfl rfl (fun z hp1 hI1 => Or.inl ⟨_, rfl, ?_⟩) (fun E hp1 hI1 hE => Or.inr ?_))
  · refine ci2l 13 ⟨u367, _, rfl⟩ rfl (fun w => ?_)
    refine clast 14 hI1.1 ⟨u367, _, rfl⟩ rfl h2 (fun hp2 hH2 F2 => ?_)
    refine cgoto ⟨u367, _, rfl⟩ ?_
    refine ccst 30 (0) ⟨u367, _, rfl⟩ rfl (by decide) (fun z9 h9 => ?_)
    exact cret ⟨u367, _, rfl⟩ (Or.inl rfl) (hR _ _ _ _ (lawI_83 hI1 hH2 F2) (by decide) (by decide))
  · have hE : E ∈ [0, 1, 3] := hE
    simp only [List.mem_cons, List.not_mem_nil, or_false] at hE
    rcases hE with rfl | rfl | rfl
    · refine ⟨0, 21, 6, 23, rfl, rfl, rfl, rfl, ?_⟩
      refine ccst 24 (2) ⟨u367, _, rfl⟩ rfl (by decide) (fun z9 h9 => ?_)
      exact cret ⟨u367, _, rfl⟩ (Or.inl rfl) (hR _ _ _ _ hI1 (by decide) (by decide))
    · refine ⟨1, 17, 6, 19, rfl, rfl, rfl, rfl, ?_⟩
      refine ccst 20 (1) ⟨u367, _, rfl⟩ rfl (by decide) (fun z9 h9 => ?_)
      exact cret ⟨u367, _, rfl⟩ (Or.inl rfl) (hR _ _ _ _ hI1 (by decide) (by decide))
    · refine ⟨3, 25, 6, 27, rfl, rfl, rfl, rfl, ?_⟩
      refine ccst 28 (3) ⟨u367, _, rfl⟩ rfl (by decide) (fun z9 h9 => ?_)
      exact cret ⟨u367, _, rfl⟩ (Or.inl rfl) (hR _ _ _ _ hI1 (by decide) (by decide))
theorem u368 : bUp 0 am_m368.1 = true := by decide +kernel
theorem h368 {d : Nat} {hp : amH} {R : cQ} {x1 x2 x3 : Int32} (hI : lawI hp) (hR : ∀ (z : Int32) hp1 mc ms, lawI hp1 → mc ≤ 1 → ms ≤ 6 → R (.inl (some (.int z))) hp1 mc ms) : cK (d + 20) 368 [.ref 0, .int x1, .int x2, .int x3, .ref 83] hp R := by
  refine cin (M := am_m368) rfl rfl rfl ?_
  refine cald2 2 ⟨u368, _, rfl⟩ rfl rfl ?_
  refine ccst 3 (0) ⟨u368, _, rfl⟩ rfl (by decide) (fun z2 h2 => ?_)
  refine cald 4 ⟨u368, _, rfl⟩ rfl rfl ?_
  refine cild 5 ⟨u368, _, rfl⟩ rfl rfl ?_
  refine cild 6 ⟨u368, _, rfl⟩ rfl rfl ?_
  refine cild 7 ⟨u368, _, rfl⟩ rfl rfl ?_
  refine ccall (kd := 0) (t := 3) [.ref 0, .int _, .int _, .int _] [.int _, .ref 83] hI.1 ⟨u368, _, rfl⟩ (Or.inl ⟨_, rfl, rfl, by decide, by decide⟩) rfl rfl rfl ⟨rfl, rfl, rfl⟩ rfl (recv0 hI.1 _) rfl (qI (bL8_s be_101 (List.mem_of_getElem? (i := 90) rfl)) (Nat.ble_eq.mpr (by show _ ≤ d + 19; exact Nat.le_trans (by decide : _ ≤ 19) (Nat.le_add_left 19 d))) hI ⟨a0r, ai _, ai _, ai _, trivial⟩ rfl rfl rfl rfl (fun z hp1 hI1 => Or.inl ⟨_, rfl, ?_⟩) (fun E hp1 hI1 hE => Or.inr ?_))
  · refine ci2l 11 ⟨u368, _, rfl⟩ rfl (fun w => ?_)
    refine clast 12 hI1.1 ⟨u368, _, rfl⟩ rfl h2 (fun hp2 hH2 F2 => ?_)
    refine cgoto ⟨u368, _, rfl⟩ ?_
    refine ccst 28 (0) ⟨u368, _, rfl⟩ rfl (by decide) (fun z9 h9 => ?_)
    exact cret ⟨u368, _, rfl⟩ (Or.inl rfl) (hR _ _ _ _ (lawI_83 hI1 hH2 F2) (by decide) (by decide))
  · have hE : E ∈ [0, 1, 3] := hE
    simp only [List.mem_cons, List.not_mem_nil, or_false] at hE
    rcases hE with rfl | rfl | rfl
    · refine ⟨0, 19, 5, 21, rfl, rfl, rfl, rfl, ?_⟩
      refine ccst 22 (2) ⟨u368, _, rfl⟩ rfl (by decide) (fun z9 h9 => ?_)
      exact cret ⟨u368, _, rfl⟩ (Or.inl rfl) (hR _ _ _ _ hI1 (by decide) (by decide))
    · refine ⟨1, 15, 5, 17, rfl, rfl, rfl, rfl, ?_⟩
      refine ccst 18 (1) ⟨u368, _, rfl⟩ rfl (by decide) (fun z9 h9 => ?_)
      exact cret ⟨u368, _, rfl⟩ (Or.inl rfl) (hR _ _ _ _ hI1 (by decide) (by decide))
    · refine ⟨3, 23, 5, 25, rfl, rfl, rfl, rfl, ?_⟩
      refine ccst 26 (3) ⟨u368, _, rfl⟩ rfl (by decide) (fun z9 h9 => ?_)
      exact cret ⟨u368, _, rfl⟩ (Or.inl rfl) (hR _ _ _ _ hI1 (by decide) (by decide))
theorem u369 : bUp 0 am_m369.1 = true := by decide +kernel
theorem h369 {d : Nat} {hp : amH} {R : cQ} {x1 x2 x3 : Int32} (hI : lawI hp) (hR : ∀ (z : Int32) hp1 mc ms, lawI hp1 → mc ≤ 1 → ms ≤ 6 → R (.inl (some (.int z))) hp1 mc ms) : cK (d + 20) 369 [.ref 0, .int x1, .int x2, .int x3, .ref 83] hp R := by
  refine cin (M := am_m369) rfl rfl rfl ?_
  refine cald2 2 ⟨u369, _, rfl⟩ rfl rfl ?_
  refine ccst 3 (0) ⟨u369, _, rfl⟩ rfl (by decide) (fun z2 h2 => ?_)
  refine cald 4 ⟨u369, _, rfl⟩ rfl rfl ?_
  refine cild 5 ⟨u369, _, rfl⟩ rfl rfl ?_
  refine cild 6 ⟨u369, _, rfl⟩ rfl rfl ?_
  refine cild 7 ⟨u369, _, rfl⟩ rfl rfl ?_
  refine ccall (kd := 0) (t := 3) [.ref 0, .int _, .int _, .int _] [.int _, .ref 83] hI.1 ⟨u369, _, rfl⟩ (Or.inl ⟨_, rfl, rfl, by decide, by decide⟩) rfl rfl rfl ⟨rfl, rfl, rfl⟩ rfl (recv0 hI.1 _) rfl (qI (bL8_s be_102 (List.mem_of_getElem? (i := 89) rfl)) (Nat.ble_eq.mpr (by show _ ≤ d + 19; exact Nat.le_trans (by decide : _ ≤ 19) (Nat.le_add_left 19 d))) hI ⟨a0r, ai _, ai _, ai _, trivial⟩ rfl rfl rfl rfl (fun z hp1 hI1 => Or.inl ⟨_, rfl, ?_⟩) (fun E hp1 hI1 hE => Or.inr ?_))
  · refine ci2l 11 ⟨u369, _, rfl⟩ rfl (fun w => ?_)
    refine clast 12 hI1.1 ⟨u369, _, rfl⟩ rfl h2 (fun hp2 hH2 F2 => ?_)
    refine cgoto ⟨u369, _, rfl⟩ ?_
    refine ccst 28 (0) ⟨u369, _, rfl⟩ rfl (by decide) (fun z9 h9 => ?_)
    exact cret ⟨u369, _, rfl⟩ (Or.inl rfl) (hR _ _ _ _ (lawI_83 hI1 hH2 F2) (by decide) (by decide))
  · have hE : E ∈ [0, 1, 3] := hE
    simp only [List.mem_cons, List.not_mem_nil, or_false] at hE
    rcases hE with rfl | rfl | rfl
    · refine ⟨0, 19, 5, 21, rfl, rfl, rfl, rfl, ?_⟩
      refine ccst 22 (2) ⟨u369, _, rfl⟩ rfl (by decide) (fun z9 h9 => ?_)
      exact cret ⟨u369, _, rfl⟩ (Or.inl rfl) (hR _ _ _ _ hI1 (by decide) (by decide))
    · refine ⟨1, 15, 5, 17, rfl, rfl, rfl, rfl, ?_⟩
      refine ccst 18 (1) ⟨u369, _, rfl⟩ rfl (by decide) (fun z9 h9 => ?_)
      exact cret ⟨u369, _, rfl⟩ (Or.inl rfl) (hR _ _ _ _ hI1 (by decide) (by decide))
    · refine ⟨3, 23, 5, 25, rfl, rfl, rfl, rfl, ?_⟩
      refine ccst 26 (3) ⟨u369, _, rfl⟩ rfl (by decide) (fun z9 h9 => ?_)
      exact cret ⟨u369, _, rfl⟩ (Or.inl rfl) (hR _ _ _ _ hI1 (by decide) (by decide))
theorem u370 : bUp 0 am_m370.1 = true := by decide +kernel
theorem h370 {d : Nat} {hp : amH} {R : cQ} {x1 x2 : Int32} (hI : lawI hp) (hR : ∀ (z : Int32) hp1 mc ms, lawI hp1 → mc ≤ 1 → ms ≤ 6 → R (.inl (some (.int z))) hp1 mc ms) : cK (d + 20) 370 [.ref 0, .int x1, .int x2, .ref 83] hp R := by
  refine cin (M := am_m370) rfl rfl rfl ?_
  refine cald 1 ⟨u370, _, rfl⟩ rfl rfl ?_
  refine ccst 2 (0) ⟨u370, _, rfl⟩ rfl (by decide) (fun z1 h1 => ?_)
  refine cald 3 ⟨u370, _, rfl⟩ rfl rfl ?_
  refine cild 4 ⟨u370, _, rfl⟩ rfl rfl ?_
  refine cild 5 ⟨u370, _, rfl⟩ rfl rfl ?_
  refine ccall (kd := 0) (t := 1) [.ref 0, .int _, .int _] [.int _, .ref 83] hI.1 ⟨u370, _, rfl⟩ (Or.inl ⟨_, rfl, rfl, by decide, by decide⟩) rfl rfl rfl ⟨rfl, rfl, rfl⟩ rfl (recv0 hI.1 _) rfl (qT (t := 1) (bL8_s be_109 (List.mem_of_getElem? (i := 82) rfl)) (Nat.ble_eq.mpr (by show _ ≤ d + 19; exact Nat.le_trans (by decide : _ ≤ 19) (Nat.le_add_left 19 d))) hI ⟨a0r, ai _, ai _, trivial⟩ rfl rfl rfl rfl (fun w hp1 hI1 hw => Or.inl ⟨_, rfl, ?_⟩) (fun E hp1 hI1 hE => Or.inr ?_))
  · obtain ⟨w, rfl⟩ := bT1 hw
    refine clast 9 hI1.1 ⟨u370, _, rfl⟩ rfl h1 (fun hp2 hH2 F2 => ?_)
    refine cgoto ⟨u370, _, rfl⟩ ?_
    refine ccst 17 (0) ⟨u370, _, rfl⟩ rfl (by decide) (fun z9 h9 => ?_)
    exact cret ⟨u370, _, rfl⟩ (Or.inl rfl) (hR _ _ _ _ (lawI_83 hI1 hH2 F2) (by decide) (by decide))
  · have hE : E ∈ [3] := hE
    simp only [List.mem_cons, List.not_mem_nil, or_false] at hE
    rcases hE with rfl
    · refine ⟨3, 12, 4, 14, rfl, rfl, rfl, rfl, ?_⟩
      refine ccst 15 (1) ⟨u370, _, rfl⟩ rfl (by decide) (fun z9 h9 => ?_)
      exact cret ⟨u370, _, rfl⟩ (Or.inl rfl) (hR _ _ _ _ hI1 (by decide) (by decide))
theorem u371 : bUp 0 am_m371.1 = true := by decide +kernel
theorem h371 {d : Nat} {hp : amH} {R : cQ} {x1 x2 x3 : Int32} (hI : lawI hp) (hR : ∀ (z : Int32) hp1 mc ms, lawI hp1 → mc ≤ 1 → ms ≤ 6 → R (.inl (some (.int z))) hp1 mc ms) : cK (d + 20) 371 [.ref 0, .int x1, .int x2, .int x3, .ref 83] hp R := by
  refine cin (M := am_m371) rfl rfl rfl ?_
  refine cald2 2 ⟨u371, _, rfl⟩ rfl rfl ?_
  refine ccst 3 (0) ⟨u371, _, rfl⟩ rfl (by decide) (fun z2 h2 => ?_)
  refine cald 4 ⟨u371, _, rfl⟩ rfl rfl ?_
  refine cild 5 ⟨u371, _, rfl⟩ rfl rfl ?_
  refine cild 6 ⟨u371, _, rfl⟩ rfl rfl ?_
  refine cild 7 ⟨u371, _, rfl⟩ rfl rfl ?_
  refine ccall (kd := 0) (t := 3) [.ref 0, .int _, .int _, .int _] [.int _, .ref 83] hI.1 ⟨u371, _, rfl⟩ (Or.inl ⟨_, rfl, rfl, by decide, by decide⟩) rfl rfl rfl ⟨rfl, rfl, rfl⟩ rfl (recv0 hI.1 _) rfl (qI (bL8_s be_115 (List.mem_of_getElem? (i := 76) rfl)) (Nat.ble_eq.mpr (by show _ ≤ d + 19; exact Nat.le_trans (by decide : _ ≤ 19) (Nat.le_add_left 19 d))) hI ⟨a0r, ai _, ai _, ai _, trivial⟩ rfl rfl rfl rfl (fun z hp1 hI1 => Or.inl ⟨_, rfl, ?_⟩) (fun E hp1 hI1 hE => Or.inr ?_))
  · refine ci2l 11 ⟨u371, _, rfl⟩ rfl (fun w => ?_)
    refine clast 12 hI1.1 ⟨u371, _, rfl⟩ rfl h2 (fun hp2 hH2 F2 => ?_)
    refine cgoto ⟨u371, _, rfl⟩ ?_
    refine ccst 28 (0) ⟨u371, _, rfl⟩ rfl (by decide) (fun z9 h9 => ?_)
    exact cret ⟨u371, _, rfl⟩ (Or.inl rfl) (hR _ _ _ _ (lawI_83 hI1 hH2 F2) (by decide) (by decide))
  · have hE : E ∈ [0, 1, 2] := hE
    simp only [List.mem_cons, List.not_mem_nil, or_false] at hE
    rcases hE with rfl | rfl | rfl
    · refine ⟨0, 19, 5, 21, rfl, rfl, rfl, rfl, ?_⟩
      refine ccst 22 (2) ⟨u371, _, rfl⟩ rfl (by decide) (fun z9 h9 => ?_)
      exact cret ⟨u371, _, rfl⟩ (Or.inl rfl) (hR _ _ _ _ hI1 (by decide) (by decide))
    · refine ⟨1, 15, 5, 17, rfl, rfl, rfl, rfl, ?_⟩
      refine ccst 18 (1) ⟨u371, _, rfl⟩ rfl (by decide) (fun z9 h9 => ?_)
      exact cret ⟨u371, _, rfl⟩ (Or.inl rfl) (hR _ _ _ _ hI1 (by decide) (by decide))
    · refine ⟨2, 23, 5, 25, rfl, rfl, rfl, rfl, ?_⟩
      refine ccst 26 (3) ⟨u371, _, rfl⟩ rfl (by decide) (fun z9 h9 => ?_)
      exact cret ⟨u371, _, rfl⟩ (Or.inl rfl) (hR _ _ _ _ hI1 (by decide) (by decide))
theorem u372 : bUp 0 am_m372.1 = true := by decide +kernel
theorem h372 {d : Nat} {hp : amH} {R : cQ} {x1 x2 x3 : Int32} (hI : lawI hp) (hR : ∀ (z : Int32) hp1 mc ms, lawI hp1 → mc ≤ 1 → ms ≤ 6 → R (.inl (some (.int z))) hp1 mc ms) : cK (d + 20) 372 [.ref 0, .int x1, .int x2, .int x3, .ref 83] hp R := by
  refine cin (M := am_m372) rfl rfl rfl ?_
  refine cald2 2 ⟨u372, _, rfl⟩ rfl rfl ?_
  refine ccst 3 (0) ⟨u372, _, rfl⟩ rfl (by decide) (fun z2 h2 => ?_)
  refine cald 4 ⟨u372, _, rfl⟩ rfl rfl ?_
  refine cild 5 ⟨u372, _, rfl⟩ rfl rfl ?_
  refine cild 6 ⟨u372, _, rfl⟩ rfl rfl ?_
  refine cild 7 ⟨u372, _, rfl⟩ rfl rfl ?_
  refine ccall (kd := 0) (t := 3) [.ref 0, .int _, .int _, .int _] [.int _, .ref 83] hI.1 ⟨u372, _, rfl⟩ (Or.inl ⟨_, rfl, rfl, by decide, by decide⟩) rfl rfl rfl ⟨rfl, rfl, rfl⟩ rfl (recv0 hI.1 _) rfl (qI (bL8_s be_119 (List.mem_of_getElem? (i := 72) rfl)) (Nat.ble_eq.mpr (by show _ ≤ d + 19; exact Nat.le_trans (by decide : _ ≤ 19) (Nat.le_add_left 19 d))) hI ⟨a0r, ai _, ai _, ai _, trivial⟩ rfl rfl rfl rfl (fun z hp1 hI1 => Or.inl ⟨_, rfl, ?_⟩) (fun E hp1 hI1 hE => Or.inr ?_))
  · refine ci2l 11 ⟨u372, _, rfl⟩ rfl (fun w => ?_)
    refine clast 12 hI1.1 ⟨u372, _, rfl⟩ rfl h2 (fun hp2 hH2 F2 => ?_)
    refine cgoto ⟨u372, _, rfl⟩ ?_
    refine ccst 28 (0) ⟨u372, _, rfl⟩ rfl (by decide) (fun z9 h9 => ?_)
    exact cret ⟨u372, _, rfl⟩ (Or.inl rfl) (hR _ _ _ _ (lawI_83 hI1 hH2 F2) (by decide) (by decide))
  · have hE : E ∈ [0, 1, 2] := hE
    simp only [List.mem_cons, List.not_mem_nil, or_false] at hE
    rcases hE with rfl | rfl | rfl
    · refine ⟨0, 19, 5, 21, rfl, rfl, rfl, rfl, ?_⟩
      refine ccst 22 (2) ⟨u372, _, rfl⟩ rfl (by decide) (fun z9 h9 => ?_)
      exact cret ⟨u372, _, rfl⟩ (Or.inl rfl) (hR _ _ _ _ hI1 (by decide) (by decide))
    · refine ⟨1, 15, 5, 17, rfl, rfl, rfl, rfl, ?_⟩
      refine ccst 18 (1) ⟨u372, _, rfl⟩ rfl (by decide) (fun z9 h9 => ?_)
      exact cret ⟨u372, _, rfl⟩ (Or.inl rfl) (hR _ _ _ _ hI1 (by decide) (by decide))
    · refine ⟨2, 23, 5, 25, rfl, rfl, rfl, rfl, ?_⟩
      refine ccst 26 (3) ⟨u372, _, rfl⟩ rfl (by decide) (fun z9 h9 => ?_)
      exact cret ⟨u372, _, rfl⟩ (Or.inl rfl) (hR _ _ _ _ hI1 (by decide) (by decide))
theorem u373 : bUp 0 am_m373.1 = true := by decide +kernel
theorem h373 {d : Nat} {hp : amH} {R : cQ} {x1 x2 x3 : Int32} (hI : lawI hp) (hR : ∀ (z : Int32) hp1 mc ms, lawI hp1 → mc ≤ 1 → ms ≤ 6 → R (.inl (some (.int z))) hp1 mc ms) : cK (d + 20) 373 [.ref 0, .int x1, .int x2, .int x3, .ref 83] hp R := by
  refine cin (M := am_m373) rfl rfl rfl ?_
  refine cald2 2 ⟨u373, _, rfl⟩ rfl rfl ?_
  refine ccst 3 (0) ⟨u373, _, rfl⟩ rfl (by decide) (fun z2 h2 => ?_)
  refine cald 4 ⟨u373, _, rfl⟩ rfl rfl ?_
  refine cild 5 ⟨u373, _, rfl⟩ rfl rfl ?_
  refine cild 6 ⟨u373, _, rfl⟩ rfl rfl ?_
  refine cild 7 ⟨u373, _, rfl⟩ rfl rfl ?_
  refine ccall (kd := 0) (t := 3) [.ref 0, .int _, .int _, .int _] [.int _, .ref 83] hI.1 ⟨u373, _, rfl⟩ (Or.inl ⟨_, rfl, rfl, by decide, by decide⟩) rfl rfl rfl ⟨rfl, rfl, rfl⟩ rfl (recv0 hI.1 _) rfl (qI (bL8_s be_122 (List.mem_of_getElem? (i := 69) rfl)) (Nat.ble_eq.mpr (by show _ ≤ d + 19; exact Nat.le_trans (by decide : _ ≤ 19) (Nat.le_add_left 19 d))) hI ⟨a0r, ai _, ai _, ai _, trivial⟩ rfl rfl rfl rfl (fun z hp1 hI1 => Or.inl ⟨_, rfl, ?_⟩) (fun E hp1 hI1 hE => Or.inr ?_))
  · refine ci2l 11 ⟨u373, _, rfl⟩ rfl (fun w => ?_)
    refine clast 12 hI1.1 ⟨u373, _, rfl⟩ rfl h2 (fun hp2 hH2 F2 => ?_)
    refine cgoto ⟨u373, _, rfl⟩ ?_
    refine ccst 28 (0) ⟨u373, _, rfl⟩ rfl (by decide) (fun z9 h9 => ?_)
    exact cret ⟨u373, _, rfl⟩ (Or.inl rfl) (hR _ _ _ _ (lawI_83 hI1 hH2 F2) (by decide) (by decide))
  · have hE : E ∈ [0, 1, 2] := hE
    simp only [List.mem_cons, List.not_mem_nil, or_false] at hE
    rcases hE with rfl | rfl | rfl
    · refine ⟨0, 19, 5, 21, rfl, rfl, rfl, rfl, ?_⟩
      refine ccst 22 (2) ⟨u373, _, rfl⟩ rfl (by decide) (fun z9 h9 => ?_)
      exact cret ⟨u373, _, rfl⟩ (Or.inl rfl) (hR _ _ _ _ hI1 (by decide) (by decide))
    · refine ⟨1, 15, 5, 17, rfl, rfl, rfl, rfl, ?_⟩
      refine ccst 18 (1) ⟨u373, _, rfl⟩ rfl (by decide) (fun z9 h9 => ?_)
      exact cret ⟨u373, _, rfl⟩ (Or.inl rfl) (hR _ _ _ _ hI1 (by decide) (by decide))
    · refine ⟨2, 23, 5, 25, rfl, rfl, rfl, rfl, ?_⟩
      refine ccst 26 (3) ⟨u373, _, rfl⟩ rfl (by decide) (fun z9 h9 => ?_)
      exact cret ⟨u373, _, rfl⟩ (Or.inl rfl) (hR _ _ _ _ hI1 (by decide) (by decide))
theorem u374 : bUp 0 am_m374.1 = true := by decide +kernel
theorem h374 {d : Nat} {hp : amH} {R : cQ} {x1 x2 x3 : Int32} (hI : lawI hp) (hR : ∀ (z : Int32) hp1 mc ms, lawI hp1 → mc ≤ 1 → ms ≤ 6 → R (.inl (some (.int z))) hp1 mc ms) : cK (d + 20) 374 [.ref 0, .int x1, .int x2, .int x3, .ref 83] hp R := by
  refine cin (M := am_m374) rfl rfl rfl ?_
  refine cald2 2 ⟨u374, _, rfl⟩ rfl rfl ?_
  refine ccst 3 (0) ⟨u374, _, rfl⟩ rfl (by decide) (fun z2 h2 => ?_)
  refine cald 4 ⟨u374, _, rfl⟩ rfl rfl ?_
  refine cild 5 ⟨u374, _, rfl⟩ rfl rfl ?_
  refine cild 6 ⟨u374, _, rfl⟩ rfl rfl ?_
  refine cild 7 ⟨u374, _, rfl⟩ rfl rfl ?_
  refine ccall (kd := 0) (t := 3) [.ref 0, .int _, .int _, .int _] [.int _, .ref 83] hI.1 ⟨u374, _, rfl⟩ (Or.inl ⟨_, rfl, rfl, by decide, by decide⟩) rfl rfl rfl ⟨rfl, rfl, rfl⟩ rfl (recv0 hI.1 _) rfl (qI (bL8_s be_123 (List.mem_of_getElem? (i := 68) rfl)) (Nat.ble_eq.mpr (by show _ ≤ d + 19; exact Nat.le_trans (by decide : _ ≤ 19) (Nat.le_add_left 19 d))) hI ⟨a0r, ai _, ai _, ai _, trivial⟩ rfl rfl rfl rfl (fun z hp1 hI1 => Or.inl ⟨_, rfl, ?_⟩) (fun E hp1 hI1 hE => Or.inr ?_))
  · refine ci2l 11 ⟨u374, _, rfl⟩ rfl (fun w => ?_)
    refine clast 12 hI1.1 ⟨u374, _, rfl⟩ rfl h2 (fun hp2 hH2 F2 => ?_)
    refine cgoto ⟨u374, _, rfl⟩ ?_
    refine ccst 28 (0) ⟨u374, _, rfl⟩ rfl (by decide) (fun z9 h9 => ?_)
    exact cret ⟨u374, _, rfl⟩ (Or.inl rfl) (hR _ _ _ _ (lawI_83 hI1 hH2 F2) (by decide) (by decide))
  · have hE : E ∈ [0, 1, 2] := hE
    simp only [List.mem_cons, List.not_mem_nil, or_false] at hE
    rcases hE with rfl | rfl | rfl
    · refine ⟨0, 19, 5, 21, rfl, rfl, rfl, rfl, ?_⟩
      refine ccst 22 (2) ⟨u374, _, rfl⟩ rfl (by decide) (fun z9 h9 => ?_)
      exact cret ⟨u374, _, rfl⟩ (Or.inl rfl) (hR _ _ _ _ hI1 (by decide) (by decide))
    · refine ⟨1, 15, 5, 17, rfl, rfl, rfl, rfl, ?_⟩
      refine ccst 18 (1) ⟨u374, _, rfl⟩ rfl (by decide) (fun z9 h9 => ?_)
      exact cret ⟨u374, _, rfl⟩ (Or.inl rfl) (hR _ _ _ _ hI1 (by decide) (by decide))
    · refine ⟨2, 23, 5, 25, rfl, rfl, rfl, rfl, ?_⟩
      refine ccst 26 (3) ⟨u374, _, rfl⟩ rfl (by decide) (fun z9 h9 => ?_)
      exact cret ⟨u374, _, rfl⟩ (Or.inl rfl) (hR _ _ _ _ hI1 (by decide) (by decide))
theorem u375 : bUp 0 am_m375.1 = true := by decide +kernel
theorem h375 {d : Nat} {hp : amH} {R : cQ} {x1 : Int32} (hI : lawI hp) (hR : ∀ (z : Int32) hp1 mc ms, lawI hp1 → mc ≤ 1 → ms ≤ 6 → R (.inl (some (.int z))) hp1 mc ms) : cK (d + 20) 375 [.ref 0, .int x1, .ref 83] hp R := by
  refine cin (M := am_m375) rfl rfl rfl ?_
  refine cald 1 ⟨u375, _, rfl⟩ rfl rfl ?_
  refine ccst 2 (0) ⟨u375, _, rfl⟩ rfl (by decide) (fun z1 h1 => ?_)
  refine cald 3 ⟨u375, _, rfl⟩ rfl rfl ?_
  refine cild 4 ⟨u375, _, rfl⟩ rfl rfl ?_
  refine ccall (kd := 0) (t := 1) [.ref 0, .int _] [.int _, .ref 83] hI.1 ⟨u375, _, rfl⟩ (Or.inl ⟨_, rfl, rfl, by decide, by decide⟩) rfl rfl rfl ⟨rfl, rfl, rfl⟩ rfl (recv0 hI.1 _) rfl (qI (bL8_s be_125 (List.mem_of_getElem? (i := 66) rfl)) (Nat.ble_eq.mpr (by show _ ≤ d + 19; exact Nat.le_trans (by decide : _ ≤ 19) (Nat.le_add_left 19 d))) hI ⟨a0r, ai _, trivial⟩ rfl rfl rfl rfl (fun z hp1 hI1 => Or.inl ⟨_, rfl, ?_⟩) (fun E hp1 hI1 hE => Or.inr ?_))
  · refine ci2l 8 ⟨u375, _, rfl⟩ rfl (fun w => ?_)
    refine clast 9 hI1.1 ⟨u375, _, rfl⟩ rfl h1 (fun hp2 hH2 F2 => ?_)
    refine cgoto ⟨u375, _, rfl⟩ ?_
    refine ccst 16 (0) ⟨u375, _, rfl⟩ rfl (by decide) (fun z9 h9 => ?_)
    exact cret ⟨u375, _, rfl⟩ (Or.inl rfl) (hR _ _ _ _ (lawI_83 hI1 hH2 F2) (by decide) (by decide))
  · have hE : E ∈ [2] := hE
    simp only [List.mem_cons, List.not_mem_nil, or_false] at hE
    rcases hE with rfl
    · refine ⟨2, 12, 3, 13, rfl, rfl, rfl, rfl, ?_⟩
      refine ccst 14 (1) ⟨u375, _, rfl⟩ rfl (by decide) (fun z9 h9 => ?_)
      exact cret ⟨u375, _, rfl⟩ (Or.inl rfl) (hR _ _ _ _ hI1 (by decide) (by decide))
theorem u376 : bUp 0 am_m376.1 = true := by decide +kernel
theorem h376 {d : Nat} {hp : amH} {R : cQ} (hI : lawI hp) (hR : ∀ (z : Int32) hp1 mc ms, lawI hp1 → mc ≤ 1 → ms ≤ 6 → R (.inl (some (.int z))) hp1 mc ms) : cK (d + 20) 376 [.ref 0, .ref 83] hp R := by
  refine cin (M := am_m376) rfl rfl rfl ?_
  refine cald 1 ⟨u376, _, rfl⟩ rfl rfl ?_
  refine ccst 2 (0) ⟨u376, _, rfl⟩ rfl (by decide) (fun z1 h1 => ?_)
  refine cald 3 ⟨u376, _, rfl⟩ rfl rfl ?_
  refine ccall (kd := 0) (t := 1) [.ref 0] [.int _, .ref 83] hI.1 ⟨u376, _, rfl⟩ (Or.inl ⟨_, rfl, rfl, by decide, by decide⟩) rfl rfl rfl ⟨rfl, rfl, rfl⟩ rfl (recv0 hI.1 _) rfl (qI (bL8_s be_128 (List.mem_of_getElem? (i := 63) rfl)) (Nat.ble_eq.mpr (by show _ ≤ d + 19; exact Nat.le_trans (by decide : _ ≤ 19) (Nat.le_add_left 19 d))) hI ⟨a0r, trivial⟩ rfl rfl rfl rfl (fun z hp1 hI1 => Or.inl ⟨_, rfl, ?_⟩) (fun E hp1 hI1 hE => Or.inr ?_))
  · refine ci2l 7 ⟨u376, _, rfl⟩ rfl (fun w => ?_)
    refine clast 8 hI1.1 ⟨u376, _, rfl⟩ rfl h1 (fun hp2 hH2 F2 => ?_)
    refine cgoto ⟨u376, _, rfl⟩ ?_
    refine ccst 15 (0) ⟨u376, _, rfl⟩ rfl (by decide) (fun z9 h9 => ?_)
    exact cret ⟨u376, _, rfl⟩ (Or.inl rfl) (hR _ _ _ _ (lawI_83 hI1 hH2 F2) (by decide) (by decide))
  · have hE : E ∈ [2] := hE
    simp only [List.mem_cons, List.not_mem_nil, or_false] at hE
    rcases hE with rfl
    · refine ⟨2, 11, 2, 12, rfl, rfl, rfl, rfl, ?_⟩
      refine ccst 13 (1) ⟨u376, _, rfl⟩ rfl (by decide) (fun z9 h9 => ?_)
      exact cret ⟨u376, _, rfl⟩ (Or.inl rfl) (hR _ _ _ _ hI1 (by decide) (by decide))
theorem u377 : bUp 0 am_m377.1 = true := by decide +kernel
theorem h377 {d : Nat} {hp : amH} {R : cQ} {x1 : Int32} (hI : lawI hp) (hR : ∀ (z : Int32) hp1 mc ms, lawI hp1 → mc ≤ 1 → ms ≤ 6 → R (.inl (some (.int z))) hp1 mc ms) : cK (d + 20) 377 [.ref 0, .int x1, .ref 83] hp R := by
  refine cin (M := am_m377) rfl rfl rfl ?_
  refine cald 1 ⟨u377, _, rfl⟩ rfl rfl ?_
  refine ccst 2 (0) ⟨u377, _, rfl⟩ rfl (by decide) (fun z1 h1 => ?_)
  refine cald 3 ⟨u377, _, rfl⟩ rfl rfl ?_
  refine cild 4 ⟨u377, _, rfl⟩ rfl rfl ?_
  refine ccall (kd := 0) (t := 1) [.ref 0, .int _] [.int _, .ref 83] hI.1 ⟨u377, _, rfl⟩ (Or.inl ⟨_, rfl, rfl, by decide, by decide⟩) rfl rfl rfl ⟨rfl, rfl, rfl⟩ rfl (recv0 hI.1 _) rfl (qI (bL8_s be_140 (List.mem_of_getElem? (i := 34) rfl)) (Nat.ble_eq.mpr (by show _ ≤ d + 19; exact Nat.le_trans (by decide : _ ≤ 19) (Nat.le_add_left 19 d))) hI ⟨a0r, ai _, trivial⟩ rfl rfl rfl rfl (fun z hp1 hI1 => Or.inl ⟨_, rfl, ?_⟩) (fun E hp1 hI1 hE => Or.inr ?_))
  · refine ci2l 8 ⟨u377, _, rfl⟩ rfl (fun w => ?_)
    refine clast 9 hI1.1 ⟨u377, _, rfl⟩ rfl h1 (fun hp2 hH2 F2 => ?_)
    refine cgoto ⟨u377, _, rfl⟩ ?_
    refine ccst 16 (0) ⟨u377, _, rfl⟩ rfl (by decide) (fun z9 h9 => ?_)
    exact cret ⟨u377, _, rfl⟩ (Or.inl rfl) (hR _ _ _ _ (lawI_83 hI1 hH2 F2) (by decide) (by decide))
  · have hE : E ∈ [0] := hE
    simp only [List.mem_cons, List.not_mem_nil, or_false] at hE
    rcases hE with rfl
    · refine ⟨0, 12, 3, 13, rfl, rfl, rfl, rfl, ?_⟩
      refine ccst 14 (1) ⟨u377, _, rfl⟩ rfl (by decide) (fun z9 h9 => ?_)
      exact cret ⟨u377, _, rfl⟩ (Or.inl rfl) (hR _ _ _ _ hI1 (by decide) (by decide))
theorem u378 : bUp 0 am_m378.1 = true := by decide +kernel
theorem h378 {d : Nat} {hp : amH} {R : cQ} {x1 : Int32} (hI : lawI hp) (hR : ∀ (z : Int32) hp1 mc ms, lawI hp1 → mc ≤ 1 → ms ≤ 6 → R (.inl (some (.int z))) hp1 mc ms) : cK (d + 20) 378 [.ref 0, .int x1, .ref 83] hp R := by
  refine cin (M := am_m378) rfl rfl rfl ?_
  refine cald 1 ⟨u378, _, rfl⟩ rfl rfl ?_
  refine ccst 2 (0) ⟨u378, _, rfl⟩ rfl (by decide) (fun z1 h1 => ?_)
  refine cald 3 ⟨u378, _, rfl⟩ rfl rfl ?_
  refine cild 4 ⟨u378, _, rfl⟩ rfl rfl ?_
  refine ccall (kd := 0) (t := 1) [.ref 0, .int _] [.int _, .ref 83] hI.1 ⟨u378, _, rfl⟩ (Or.inl ⟨_, rfl, rfl, by decide, by decide⟩) rfl rfl rfl ⟨rfl, rfl, rfl⟩ rfl (recv0 hI.1 _) rfl (qI (bL8_s be_144 (List.mem_of_getElem? (i := 30) rfl)) (Nat.ble_eq.mpr (by show _ ≤ d + 19; exact Nat.le_trans (by decide : _ ≤ 19) (Nat.le_add_left 19 d))) hI ⟨a0r, ai _, trivial⟩ rfl rfl rfl rfl (fun z hp1 hI1 => Or.inl ⟨_, rfl, ?_⟩) (fun E hp1 hI1 hE => Or.inr ?_))
  · refine ci2l 8 ⟨u378, _, rfl⟩ rfl (fun w => ?_)
    refine clast 9 hI1.1 ⟨u378, _, rfl⟩ rfl h1 (fun hp2 hH2 F2 => ?_)
    refine cgoto ⟨u378, _, rfl⟩ ?_
    refine ccst 16 (0) ⟨u378, _, rfl⟩ rfl (by decide) (fun z9 h9 => ?_)
    exact cret ⟨u378, _, rfl⟩ (Or.inl rfl) (hR _ _ _ _ (lawI_83 hI1 hH2 F2) (by decide) (by decide))
  · have hE : E ∈ [1] := hE
    simp only [List.mem_cons, List.not_mem_nil, or_false] at hE
    rcases hE with rfl
    · refine ⟨1, 12, 3, 13, rfl, rfl, rfl, rfl, ?_⟩
      refine ccst 14 (1) ⟨u378, _, rfl⟩ rfl (by decide) (fun z9 h9 => ?_)
      exact cret ⟨u378, _, rfl⟩ (Or.inl rfl) (hR _ _ _ _ hI1 (by decide) (by decide))
theorem u379 : bUp 0 am_m379.1 = true := by decide +kernel
theorem h379 {d : Nat} {hp : amH} {R : cQ} {x1 x2 : Int32} (hI : lawI hp) (hR : ∀ (z : Int32) hp1 mc ms, lawI hp1 → mc ≤ 1 → ms ≤ 6 → R (.inl (some (.int z))) hp1 mc ms) : cK (d + 20) 379 [.ref 0, .int x1, .int x2, .ref 83] hp R := by
  refine cin (M := am_m379) rfl rfl rfl ?_
  refine cald 1 ⟨u379, _, rfl⟩ rfl rfl ?_
  refine ccst 2 (0) ⟨u379, _, rfl⟩ rfl (by decide) (fun z1 h1 => ?_)
  refine cald 3 ⟨u379, _, rfl⟩ rfl rfl ?_
  refine cild 4 ⟨u379, _, rfl⟩ rfl rfl ?_
  refine cild 5 ⟨u379, _, rfl⟩ rfl rfl ?_
  refine ccall (kd := 0) (t := 2) [.ref 0, .int _, .int _] [.int _, .ref 83] hI.1 ⟨u379, _, rfl⟩ (Or.inl ⟨_, rfl, rfl, by decide, by decide⟩) rfl rfl rfl ⟨rfl, rfl, rfl⟩ rfl (recv0 hI.1 _) rfl (qI (bL8_s be_157 (List.mem_of_getElem? (i := 17) rfl)) (Nat.ble_eq.mpr (by show _ ≤ d + 19; exact Nat.le_trans (by decide : _ ≤ 19) (Nat.le_add_left 19 d))) hI ⟨a0r, ai _, ai _, trivial⟩ rfl rfl rfl rfl (fun z hp1 hI1 => Or.inl ⟨_, rfl, ?_⟩) (fun E hp1 hI1 hE => Or.inr ?_))
  · refine ci2l 9 ⟨u379, _, rfl⟩ rfl (fun w => ?_)
    refine clast 10 hI1.1 ⟨u379, _, rfl⟩ rfl h1 (fun hp2 hH2 F2 => ?_)
    refine cgoto ⟨u379, _, rfl⟩ ?_
    refine ccst 22 (0) ⟨u379, _, rfl⟩ rfl (by decide) (fun z9 h9 => ?_)
    exact cret ⟨u379, _, rfl⟩ (Or.inl rfl) (hR _ _ _ _ (lawI_83 hI1 hH2 F2) (by decide) (by decide))
  · have hE : E ∈ [0, 1] := hE
    simp only [List.mem_cons, List.not_mem_nil, or_false] at hE
    rcases hE with rfl | rfl
    · refine ⟨0, 17, 4, 19, rfl, rfl, rfl, rfl, ?_⟩
      refine ccst 20 (2) ⟨u379, _, rfl⟩ rfl (by decide) (fun z9 h9 => ?_)
      exact cret ⟨u379, _, rfl⟩ (Or.inl rfl) (hR _ _ _ _ hI1 (by decide) (by decide))
    · refine ⟨1, 13, 4, 15, rfl, rfl, rfl, rfl, ?_⟩
      refine ccst 16 (1) ⟨u379, _, rfl⟩ rfl (by decide) (fun z9 h9 => ?_)
      exact cret ⟨u379, _, rfl⟩ (Or.inl rfl) (hR _ _ _ _ hI1 (by decide) (by decide))
theorem u380 : bUp 0 am_m380.1 = true := by decide +kernel
theorem h380 {d : Nat} {hp : amH} {R : cQ} {x1 : Int32} (hI : lawI hp) (hR : ∀ (z : Int32) hp1 mc ms, lawI hp1 → mc ≤ 1 → ms ≤ 6 → R (.inl (some (.int z))) hp1 mc ms) : cK (d + 20) 380 [.ref 0, .int x1, .ref 83] hp R := by
  refine cin (M := am_m380) rfl rfl rfl ?_
  refine cald 1 ⟨u380, _, rfl⟩ rfl rfl ?_
  refine ccst 2 (0) ⟨u380, _, rfl⟩ rfl (by decide) (fun z1 h1 => ?_)
  refine cald 3 ⟨u380, _, rfl⟩ rfl rfl ?_
  refine cild 4 ⟨u380, _, rfl⟩ rfl rfl ?_
  refine ccall (kd := 0) (t := 1) [.ref 0, .int _] [.int _, .ref 83] hI.1 ⟨u380, _, rfl⟩ (Or.inl ⟨_, rfl, rfl, by decide, by decide⟩) rfl rfl rfl ⟨rfl, rfl, rfl⟩ rfl (recv0 hI.1 _) rfl (qI (bL8_s be_159 (List.mem_of_getElem? (i := 15) rfl)) (Nat.ble_eq.mpr (by show _ ≤ d + 19; exact Nat.le_trans (by decide : _ ≤ 19) (Nat.le_add_left 19 d))) hI ⟨a0r, ai _, trivial⟩ rfl rfl rfl rfl (fun z hp1 hI1 => Or.inl ⟨_, rfl, ?_⟩) (fun E hp1 hI1 hE => Or.inr ?_))
  · refine ci2l 8 ⟨u380, _, rfl⟩ rfl (fun w => ?_)
    refine clast 9 hI1.1 ⟨u380, _, rfl⟩ rfl h1 (fun hp2 hH2 F2 => ?_)
    refine cgoto ⟨u380, _, rfl⟩ ?_
    refine ccst 16 (0) ⟨u380, _, rfl⟩ rfl (by decide) (fun z9 h9 => ?_)
    exact cret ⟨u380, _, rfl⟩ (Or.inl rfl) (hR _ _ _ _ (lawI_83 hI1 hH2 F2) (by decide) (by decide))
  · have hE : E ∈ [1] := hE
    simp only [List.mem_cons, List.not_mem_nil, or_false] at hE
    rcases hE with rfl
    · refine ⟨1, 12, 3, 13, rfl, rfl, rfl, rfl, ?_⟩
      refine ccst 14 (1) ⟨u380, _, rfl⟩ rfl (by decide) (fun z9 h9 => ?_)
      exact cret ⟨u380, _, rfl⟩ (Or.inl rfl) (hR _ _ _ _ hI1 (by decide) (by decide))
theorem u381 : bUp 0 am_m381.1 = true := by decide +kernel
theorem h381 {d : Nat} {hp : amH} {R : cQ} {x1 x2 x3 : Int32} (hI : lawI hp) (hR : ∀ (z : Int32) hp1 mc ms, lawI hp1 → mc ≤ 1 → ms ≤ 6 → R (.inl (some (.int z))) hp1 mc ms) : cK (d + 20) 381 [.ref 0, .int x1, .int x2, .int x3, .ref 83] hp R := by
  refine cin (M := am_m381) rfl rfl rfl ?_
  refine cald2 2 ⟨u381, _, rfl⟩ rfl rfl ?_
  refine ccst 3 (0) ⟨u381, _, rfl⟩ rfl (by decide) (fun z2 h2 => ?_)
  refine cald 4 ⟨u381, _, rfl⟩ rfl rfl ?_
  refine cild 5 ⟨u381, _, rfl⟩ rfl rfl ?_
  refine cild 6 ⟨u381, _, rfl⟩ rfl rfl ?_
  refine cild 7 ⟨u381, _, rfl⟩ rfl rfl ?_
  refine ccall (kd := 0) (t := 2) [.ref 0, .int _, .int _, .int _] [.int _, .ref 83] hI.1 ⟨u381, _, rfl⟩ (Or.inl ⟨_, rfl, rfl, by decide, by decide⟩) rfl rfl rfl ⟨rfl, rfl, rfl⟩ rfl (recv0 hI.1 _) rfl (qI (bL8_s be_160 (List.mem_of_getElem? (i := 14) rfl)) (Nat.ble_eq.mpr (by show _ ≤ d + 19; exact Nat.le_trans (by decide : _ ≤ 19) (Nat.le_add_left 19 d))) hI ⟨a0r, ai _, ai _, ai _, trivial⟩ rfl rfl rfl rfl (fun z hp1 hI1 => Or.inl ⟨_, rfl, ?_⟩) (fun E hp1 hI1 hE => Or.inr ?_))
  · refine ci2l 11 ⟨u381, _, rfl⟩ rfl (fun w => ?_)
    refine clast 12 hI1.1 ⟨u381, _, rfl⟩ rfl h2 (fun hp2 hH2 F2 => ?_)
    refine cgoto ⟨u381, _, rfl⟩ ?_
    refine ccst 24 (0) ⟨u381, _, rfl⟩ rfl (by decide) (fun z9 h9 => ?_)
    exact cret ⟨u381, _, rfl⟩ (Or.inl rfl) (hR _ _ _ _ (lawI_83 hI1 hH2 F2) (by decide) (by decide))
  · have hE : E ∈ [0, 1] := hE
    simp only [List.mem_cons, List.not_mem_nil, or_false] at hE
    rcases hE with rfl | rfl
    · refine ⟨0, 19, 5, 21, rfl, rfl, rfl, rfl, ?_⟩
      refine ccst 22 (2) ⟨u381, _, rfl⟩ rfl (by decide) (fun z9 h9 => ?_)
      exact cret ⟨u381, _, rfl⟩ (Or.inl rfl) (hR _ _ _ _ hI1 (by decide) (by decide))
    · refine ⟨1, 15, 5, 17, rfl, rfl, rfl, rfl, ?_⟩
      refine ccst 18 (1) ⟨u381, _, rfl⟩ rfl (by decide) (fun z9 h9 => ?_)
      exact cret ⟨u381, _, rfl⟩ (Or.inl rfl) (hR _ _ _ _ hI1 (by decide) (by decide))
theorem u382 : bUp 0 am_m382.1 = true := by decide +kernel
theorem h382 {d : Nat} {hp : amH} {R : cQ} {x1 x2 x3 : Int32} (hI : lawI hp) (hR : ∀ (z : Int32) hp1 mc ms, lawI hp1 → mc ≤ 1 → ms ≤ 6 → R (.inl (some (.int z))) hp1 mc ms) : cK (d + 20) 382 [.ref 0, .int x1, .int x2, .int x3, .ref 83] hp R := by
  refine cin (M := am_m382) rfl rfl rfl ?_
  refine cald2 2 ⟨u382, _, rfl⟩ rfl rfl ?_
  refine ccst 3 (0) ⟨u382, _, rfl⟩ rfl (by decide) (fun z2 h2 => ?_)
  refine cald 4 ⟨u382, _, rfl⟩ rfl rfl ?_
  refine cild 5 ⟨u382, _, rfl⟩ rfl rfl ?_
  refine cild 6 ⟨u382, _, rfl⟩ rfl rfl ?_
  refine cild 7 ⟨u382, _, rfl⟩ rfl rfl ?_
  refine ccall (kd := 0) (t := 3) [.ref 0, .int _, .int _, .int _] [.int _, .ref 83] hI.1 ⟨u382, _, rfl⟩ (Or.inl ⟨_, rfl, rfl, by decide, by decide⟩) rfl rfl rfl ⟨rfl, rfl, rfl⟩ rfl (recv0 hI.1 _) rfl (qI (bL8_s be_161 (List.mem_of_getElem? (i := 13) rfl)) (Nat.ble_eq.mpr (by show _ ≤ d + 19; exact Nat.le_trans (by decide : _ ≤ 19) (Nat.le_add_left 19 d))) hI ⟨a0r, ai _, ai _, ai _, trivial⟩ rfl rfl rfl rfl (fun z hp1 hI1 => Or.inl ⟨_, rfl, ?_⟩) (fun E hp1 hI1 hE => Or.inr ?_))
  · refine ci2l 11 ⟨u382, _, rfl⟩ rfl (fun w => ?_)
    refine clast 12 hI1.1 ⟨u382, _, rfl⟩ rfl h2 (fun hp2 hH2 F2 => ?_)
    refine cgoto ⟨u382, _, rfl⟩ ?_
    refine ccst 28 (0) ⟨u382, _, rfl⟩ rfl (by decide) (fun z9 h9 => ?_)
    exact cret ⟨u382, _, rfl⟩ (Or.inl rfl) (hR _ _ _ _ (lawI_83 hI1 hH2 F2) (by decide) (by decide))
  · have hE : E ∈ [0, 1, 2] := hE
    simp only [List.mem_cons, List.not_mem_nil, or_false] at hE
    rcases hE with rfl | rfl | rfl
    · refine ⟨0, 19, 5, 21, rfl, rfl, rfl, rfl, ?_⟩
      refine ccst 22 (2) ⟨u382, _, rfl⟩ rfl (by decide) (fun z9 h9 => ?_)
      exact cret ⟨u382, _, rfl⟩ (Or.inl rfl) (hR _ _ _ _ hI1 (by decide) (by decide))
    · refine ⟨1, 15, 5, 17, rfl, rfl, rfl, rfl, ?_⟩
      refine ccst 18 (1) ⟨u382, _, rfl⟩ rfl (by decide) (fun z9 h9 => ?_)
      exact cret ⟨u382, _, rfl⟩ (Or.inl rfl) (hR _ _ _ _ hI1 (by decide) (by decide))
    · refine ⟨2, 23, 5, 25, rfl, rfl, rfl, rfl, ?_⟩
      refine ccst 26 (3) ⟨u382, _, rfl⟩ rfl (by decide) (fun z9 h9 => ?_)
      exact cret ⟨u382, _, rfl⟩ (Or.inl rfl) (hR _ _ _ _ hI1 (by decide) (by decide))
theorem u383 : bUp 0 am_m383.1 = true := by decide +kernel
theorem h383 {d : Nat} {hp : amH} {R : cQ} {x1 : Int32} (hI : lawI hp) (hR : ∀ (z : Int32) hp1 mc ms, lawI hp1 → mc ≤ 1 → ms ≤ 6 → R (.inl (some (.int z))) hp1 mc ms) : cK (d + 20) 383 [.ref 0, .int x1, .ref 83] hp R := by
  refine cin (M := am_m383) rfl rfl rfl ?_
  refine cald 1 ⟨u383, _, rfl⟩ rfl rfl ?_
  refine ccst 2 (0) ⟨u383, _, rfl⟩ rfl (by decide) (fun z1 h1 => ?_)
  refine cald 3 ⟨u383, _, rfl⟩ rfl rfl ?_
  refine cild 4 ⟨u383, _, rfl⟩ rfl rfl ?_
  refine ccall (kd := 0) (t := 1) [.ref 0, .int _] [.int _, .ref 83] hI.1 ⟨u383, _, rfl⟩ (Or.inl ⟨_, rfl, rfl, by decide, by decide⟩) rfl rfl rfl ⟨rfl, rfl, rfl⟩ rfl (recv0 hI.1 _) rfl (qI (bL8_s be_164 (List.mem_of_getElem? (i := 10) rfl)) (Nat.ble_eq.mpr (by show _ ≤ d + 19; exact Nat.le_trans (by decide : _ ≤ 19) (Nat.le_add_left 19 d))) hI ⟨a0r, ai _, trivial⟩ rfl rfl rfl rfl (fun z hp1 hI1 => Or.inl ⟨_, rfl, ?_⟩) (fun E hp1 hI1 hE => Or.inr ?_))
  · refine ci2l 8 ⟨u383, _, rfl⟩ rfl (fun w => ?_)
    refine clast 9 hI1.1 ⟨u383, _, rfl⟩ rfl h1 (fun hp2 hH2 F2 => ?_)
    refine cgoto ⟨u383, _, rfl⟩ ?_
    refine ccst 16 (0) ⟨u383, _, rfl⟩ rfl (by decide) (fun z9 h9 => ?_)
    exact cret ⟨u383, _, rfl⟩ (Or.inl rfl) (hR _ _ _ _ (lawI_83 hI1 hH2 F2) (by decide) (by decide))
  · have hE : E ∈ [1] := hE
    simp only [List.mem_cons, List.not_mem_nil, or_false] at hE
    rcases hE with rfl
    · refine ⟨1, 12, 3, 13, rfl, rfl, rfl, rfl, ?_⟩
      refine ccst 14 (1) ⟨u383, _, rfl⟩ rfl (by decide) (fun z9 h9 => ?_)
      exact cret ⟨u383, _, rfl⟩ (Or.inl rfl) (hR _ _ _ _ hI1 (by decide) (by decide))
theorem u384 : bUp 0 am_m384.1 = true := by decide +kernel
theorem h384 {d : Nat} {hp : amH} {R : cQ} (hI : lawI hp) (hR : ∀ (z : Int32) hp1 mc ms, lawI hp1 → mc ≤ 1 → ms ≤ 6 → R (.inl (some (.int z))) hp1 mc ms) : cK (d + 20) 384 [.ref 0, .ref 83] hp R := by
  refine cin (M := am_m384) rfl rfl rfl ?_
  refine cald 1 ⟨u384, _, rfl⟩ rfl rfl ?_
  refine ccst 2 (0) ⟨u384, _, rfl⟩ rfl (by decide) (fun z1 h1 => ?_)
  refine cald 3 ⟨u384, _, rfl⟩ rfl rfl ?_
  refine ccall (kd := 0) (t := 1) [.ref 0] [.int _, .ref 83] hI.1 ⟨u384, _, rfl⟩ (Or.inl ⟨_, rfl, rfl, by decide, by decide⟩) rfl rfl rfl ⟨rfl, rfl, rfl⟩ rfl (recv0 hI.1 _) rfl (qI (bL8_s be_174 (List.mem_of_getElem? (i := 0) rfl)) (Nat.ble_eq.mpr (by show _ ≤ d + 19; exact Nat.le_trans (by decide : _ ≤ 19) (Nat.le_add_left 19 d))) hI ⟨a0r, trivial⟩ rfl rfl rfl rfl (fun z hp1 hI1 => Or.inl ⟨_, rfl, ?_⟩) (fun E hp1 hI1 hE => Or.inr ?_))
  · refine ci2l 7 ⟨u384, _, rfl⟩ rfl (fun w => ?_)
    refine clast 8 hI1.1 ⟨u384, _, rfl⟩ rfl h1 (fun hp2 hH2 F2 => ?_)
    refine cgoto ⟨u384, _, rfl⟩ ?_
    refine ccst 15 (0) ⟨u384, _, rfl⟩ rfl (by decide) (fun z9 h9 => ?_)
    exact cret ⟨u384, _, rfl⟩ (Or.inl rfl) (hR _ _ _ _ (lawI_83 hI1 hH2 F2) (by decide) (by decide))
  · have hE : E ∈ [2] := hE
    simp only [List.mem_cons, List.not_mem_nil, or_false] at hE
    rcases hE with rfl
    · refine ⟨2, 11, 2, 12, rfl, rfl, rfl, rfl, ?_⟩
      refine ccst 13 (1) ⟨u384, _, rfl⟩ rfl (by decide) (fun z9 h9 => ?_)
      exact cret ⟨u384, _, rfl⟩ (Or.inl rfl) (hR _ _ _ _ hI1 (by decide) (by decide))
