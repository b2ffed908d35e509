/-! ===== the law's helpers (d) ===== -/
theorem u348 : bUp 0 am_m348.1 = true := by decide +kernel
theorem h348 {d : Nat} {hp : amH} {R : cQ} {x1 : Int32} (hI : lawI hp) (hR : ∀ (z : Int32) hp1 mc ms, lawI hp1 → mc ≤ 1 → ms ≤ 6 → R (.inl (some (.int z))) hp1 mc ms) : cK (d + 20) 348 [.ref 0, .int x1, .ref 83] hp R := by
  refine cin (M := am_m348) rfl rfl rfl ?_
  refine cald 1 ⟨u348, _, rfl⟩ rfl rfl ?_
  refine ccst 2 (0) ⟨u348, _, rfl⟩ rfl (by decide) (fun z1 h1 => ?_)
  refine cald 3 ⟨u348, _, rfl⟩ rfl rfl ?_
  refine cild 4 ⟨u348, _, rfl⟩ rfl rfl ?_
  refine ccall (kd := 0) (t := 1) [.ref 0, .int _] [.int _, .ref 83] hI.1 ⟨u348, _, rfl⟩ (Or.inl ⟨_, rfl, rfl, by decide, by decide⟩) rfl rfl rfl ⟨rfl, rfl, rfl⟩ rfl (recv0 hI.1 _) rfl (qI (bL8_s be_31 (List.mem_of_getElem? (i := 165) rfl)) (Nat.ble_eq.mpr (by show _ ≤ d + 19; exact Nat.le_trans (by decide : _ ≤ 19) (Nat.le_add_left 19 d))) hI ⟨a0r, ai _, trivial⟩ rfl rfl rfl rfl (fun z hp1 hI1 => Or.inl ⟨_, rfl, ?_⟩) (fun E hp1 hI1 hE => Or.inr ?_))
  · refine ci2l 8 ⟨u348, _, rfl⟩ rfl (fun w => ?_)
    refine clast 9 hI1.1 ⟨u348, _, rfl⟩ rfl h1 (fun hp2 hH2 F2 => ?_)
    refine cgoto ⟨u348, _, rfl⟩ ?_
    refine ccst 16 (0) ⟨u348, _, rfl⟩ rfl (by decide) (fun z9 h9 => ?_)
    exact cret ⟨u348, _, rfl⟩ (Or.inl rfl) (hR _ _ _ _ (lawI_83 hI1 hH2 F2) (by decide) (by decide))
  · have hE : E ∈ [0] := hE
    simp only [List.mem_cons, List.not_mem_nil, or_false] at hE
    rcases hE with rfl
    · refine ⟨0, 12, 3, 13, rfl, rfl, rfl, rfl, ?_⟩
      refine ccst 14 (1) ⟨u348, _, rfl⟩ rfl (by decide) (fun z9 h9 => ?_)
      exact cret ⟨u348, _, rfl⟩ (Or.inl rfl) (hR _ _ _ _ hI1 (by decide) (by decide))
theorem u349 : bUp 0 am_m349.1 = true := by decide +kernel
theorem h349 {d : Nat} {hp : amH} {R : cQ} {x1 x2 : Int32} (hI : lawI hp) (hR : ∀ (z : Int32) hp1 mc ms, lawI hp1 → mc ≤ 1 → ms ≤ 6 → R (.inl (some (.int z))) hp1 mc ms) : cK (d + 20) 349 [.ref 0, .int x1, .int x2, .ref 83] hp R := by
  refine cin (M := am_m349) rfl rfl rfl ?_
  refine cald 1 ⟨u349, _, rfl⟩ rfl rfl ?_
  refine ccst 2 (0) ⟨u349, _, rfl⟩ rfl (by decide) (fun z1 h1 => ?_)
  refine cald 3 ⟨u349, _, rfl⟩ rfl rfl ?_
  refine cild 4 ⟨u349, _, rfl⟩ rfl rfl ?_
  refine cild 5 ⟨u349, _, rfl⟩ rfl rfl ?_
  refine ccall (kd := 0) (t := 2) [.ref 0, .int _, .int _] [.int _, .ref 83] hI.1 ⟨u349, _, rfl⟩ (Or.inl ⟨_, rfl, rfl, by decide, by decide⟩) rfl rfl rfl ⟨rfl, rfl, rfl⟩ rfl (recv0 hI.1 _) rfl (qI (bL8_s be_33 (List.mem_of_getElem? (i := 163) rfl)) (Nat.ble_eq.mpr (by show _ ≤ d + 19; exact Nat.le_trans (by decide : _ ≤ 19) (Nat.le_add_left 19 d))) hI ⟨a0r, ai _, ai _, trivial⟩ rfl rfl rfl rfl (fun z hp1 hI1 => Or.inl ⟨_, rfl, ?_⟩) (fun E hp1 hI1 hE => Or.inr ?_))
  · refine ci2l 9 ⟨u349, _, rfl⟩ rfl (fun w => ?_)
    refine clast 10 hI1.1 ⟨u349, _, rfl⟩ rfl h1 (fun hp2 hH2 F2 => ?_)
    refine cgoto ⟨u349, _, rfl⟩ ?_
    refine ccst 22 (0) ⟨u349, _, rfl⟩ rfl (by decide) (fun z9 h9 => ?_)
    exact cret ⟨u349, _, rfl⟩ (Or.inl rfl) (hR _ _ _ _ (lawI_83 hI1 hH2 F2) (by decide) (by decide))
  · have hE : E ∈ [0, 1] := hE
    simp only [List.mem_cons, List.not_mem_nil, or_false] at hE
    rcases hE with rfl | rfl
    · refine ⟨0, 17, 4, 19, rfl, rfl, rfl, rfl, ?_⟩
      refine ccst 20 (2) ⟨u349, _, rfl⟩ rfl (by decide) (fun z9 h9 => ?_)
      exact cret ⟨u349, _, rfl⟩ (Or.inl rfl) (hR _ _ _ _ hI1 (by decide) (by decide))
    · refine ⟨1, 13, 4, 15, rfl, rfl, rfl, rfl, ?_⟩
      refine ccst 16 (1) ⟨u349, _, rfl⟩ rfl (by decide) (fun z9 h9 => ?_)
      exact cret ⟨u349, _, rfl⟩ (Or.inl rfl) (hR _ _ _ _ hI1 (by decide) (by decide))
theorem u350 : bUp 0 am_m350.1 = true := by decide +kernel
theorem h350 {d : Nat} {hp : amH} {R : cQ} {x1 x2 x3 : Int32} (hI : lawI hp) (hR : ∀ (z : Int32) hp1 mc ms, lawI hp1 → mc ≤ 1 → ms ≤ 6 → R (.inl (some (.int z))) hp1 mc ms) : cK (d + 20) 350 [.ref 0, .int x1, .int x2, .int x3, .ref 83] hp R := by
  refine cin (M := am_m350) rfl rfl rfl ?_
  refine cald2 2 ⟨u350, _, rfl⟩ rfl rfl ?_
  refine ccst 3 (0) ⟨u350, _, rfl⟩ rfl (by decide) (fun z2 h2 => ?_)
  refine cald 4 ⟨u350, _, rfl⟩ rfl rfl ?_
  refine cild 5 ⟨u350, _, rfl⟩ rfl rfl ?_
  refine cild 6 ⟨u350, _, rfl⟩ rfl rfl ?_
  refine cild 7 ⟨u350, _, rfl⟩ rfl rfl ?_
  refine ccall (kd := 0) (t := 2) [.ref 0, .int _, .int _, .int _] [.int _, .ref 83] hI.1 ⟨u350, _, rfl⟩ (Or.inl ⟨_, rfl, rfl, by decide, by decide⟩) rfl rfl rfl ⟨rfl, rfl, rfl⟩ rfl (recv0 hI.1 _) rfl (qI (bL8_s be_34 (List.mem_of_getElem? (i := 162) rfl)) (Nat.ble_eq.mpr (by show _ ≤ d + 19; exact Nat.le_trans (by decide : _ ≤ 19) (Nat.le_add_left 19 d))) hI ⟨a0r, ai _, ai _, ai _, trivial⟩ rfl rfl rfl rfl (fun z hp1 hI1 => Or.inl ⟨_, rfl, ?_⟩) (fun E hp1 hI1 hE => Or.inr ?_))
  · refine ci2l 11 ⟨u350, _, rfl⟩ rfl (fun w => ?_)
    refine clast 12 hI1.1 ⟨u350, _, rfl⟩ rfl h2 (fun hp2 hH2 F2 => ?_)
    refine cgoto ⟨u350, _, rfl⟩ ?_
    refine ccst 24 (0) ⟨u350, _, rfl⟩ rfl (by decide) (fun z9 h9 => ?_)
    exact cret ⟨u350, _, rfl⟩ (Or.inl rfl) (hR _ _ _ _ (lawI_83 hI1 hH2 F2) (by decide) (by decide))
  · have hE : E ∈ [0, 1] := hE
    simp only [List.mem_cons, List.not_mem_nil, or_false] at hE
    rcases hE with rfl | rfl
    · refine ⟨0, 19, 5, 21, rfl, rfl, rfl, rfl, ?_⟩
      refine ccst 22 (2) ⟨u350, _, rfl⟩ rfl (by decide) (fun z9 h9 => ?_)
      exact cret ⟨u350, _, rfl⟩ (Or.inl rfl) (hR _ _ _ _ hI1 (by decide) (by decide))
    · refine ⟨1, 15, 5, 17, rfl, rfl, rfl, rfl, ?_⟩
      refine ccst 18 (1) ⟨u350, _, rfl⟩ rfl (by decide) (fun z9 h9 => ?_)
      exact cret ⟨u350, _, rfl⟩ (Or.inl rfl) (hR _ _ _ _ hI1 (by decide) (by decide))
theorem u351 : bUp 0 am_m351.1 = true := by decide +kernel
theorem h351 {d : Nat} {hp : amH} {R : cQ} {x1 x2 : Int32} (hI : lawI hp) (hR : ∀ (z : Int32) hp1 mc ms, lawI hp1 → mc ≤ 1 → ms ≤ 6 → R (.inl (some (.int z))) hp1 mc ms) : cK (d + 20) 351 [.ref 0, .int x1, .int x2, .ref 83] hp R := by
  refine cin (M := am_m351) rfl rfl rfl ?_
  refine cald 1 ⟨u351, _, rfl⟩ rfl rfl ?_
  refine ccst 2 (0) ⟨u351, _, rfl⟩ rfl (by decide) (fun z1 h1 => ?_)
  refine cald 3 ⟨u351, _, rfl⟩ rfl rfl ?_
  refine cild 4 ⟨u351, _, rfl⟩ rfl rfl ?_
  refine cild 5 ⟨u351, _, rfl⟩ rfl rfl ?_
  refine ccall (kd := 0) (t := 2) [.ref 0, .int _, .int _] [.int _, .ref 83] hI.1 ⟨u351, _, rfl⟩ (Or.inl ⟨_, rfl, rfl, by decide, by decide⟩) rfl rfl rfl ⟨rfl, rfl, rfl⟩ rfl (recv0 hI.1 _) rfl (qI (bL8_s be_35 (List.mem_of_getElem? (i := 161) rfl)) (Nat.ble_eq.mpr (by show _ ≤ d + 19; exact Nat.le_trans (by decide : _ ≤ 19) (Nat.le_add_left 19 d))) hI ⟨a0r, ai _, ai _, trivial⟩ rfl rfl rfl rfl (fun z hp1 hI1 => Or.inl ⟨_, rfl, ?_⟩) (fun E hp1 hI1 hE => Or.inr ?_))
  · refine ci2l 9 ⟨u351, _, rfl⟩ rfl (fun w => ?_)
    refine clast 10 hI1.1 ⟨u351, _, rfl⟩ rfl h1 (fun hp2 hH2 F2 => ?_)
    refine cgoto ⟨u351, _, rfl⟩ ?_
    refine ccst 22 (0) ⟨u351, _, rfl⟩ rfl (by decide) (fun z9 h9 => ?_)
    exact cret ⟨u351, _, rfl⟩ (Or.inl rfl) (hR _ _ _ _ (lawI_83 hI1 hH2 F2) (by decide) (by decide))
  · have hE : E ∈ [0, 1] := hE
    simp only [List.mem_cons, List.not_mem_nil, or_false] at hE
    rcases hE with rfl | rfl
    · refine ⟨0, 17, 4, 19, rfl, rfl, rfl, rfl, ?_⟩
      refine ccst 20 (2) ⟨u351, _, rfl⟩ rfl (by decide) (fun z9 h9 => ?_)
      exact cret ⟨u351, _, rfl⟩ (Or.inl rfl) (hR _ _ _ _ hI1 (by decide) (by decide))
    · refine ⟨1, 13, 4, 15, rfl, rfl, rfl, rfl, ?_⟩
      refine ccst 16 (1) ⟨u351, _, rfl⟩ rfl (by decide) (fun z9 h9 => ?_)
      exact cret ⟨u351, _, rfl⟩ (Or.inl rfl) (hR _ _ _ _ hI1 (by decide) (by decide))
theorem u352 : bUp 0 am_m352.1 = true := by decide +kernel
theorem h352 {d : Nat} {hp : amH} {R : cQ} {x1 : Int32} (hI : lawI hp) (hR : ∀ (z : Int32) hp1 mc ms, lawI hp1 → mc ≤ 1 → ms ≤ 6 → R (.inl (some (.int z))) hp1 mc ms) : cK (d + 20) 352 [.ref 0, .int x1, .ref 83] hp R := by
  refine cin (M := am_m352) rfl rfl rfl ?_
  refine cald 1 ⟨u352, _, rfl⟩ rfl rfl ?_
  refine ccst 2 (0) ⟨u352, _, rfl⟩ rfl (by decide) (fun z1 h1 => ?_)
  refine cald 3 ⟨u352, _, rfl⟩ rfl rfl ?_
  refine cild 4 ⟨u352, _, rfl⟩ rfl rfl ?_
  refine ccall (kd := 0) (t := 1) [.ref 0, .int _] [.int _, .ref 83] hI.1 ⟨u352, _, rfl⟩ (Or.inl ⟨_, rfl, rfl, by decide, by decide⟩) rfl rfl rfl ⟨rfl, rfl, rfl⟩ rfl (recv0 hI.1 _) rfl (qI (bL8_s be_37 (List.mem_of_getElem? (i := 159) rfl)) (Nat.ble_eq.mpr (by show _ ≤ d + 19; exact Nat.le_trans (by decide : _ ≤ 19) (Nat.le_add_left 19 d))) hI ⟨a0r, ai _, trivial⟩ rfl rfl rfl rfl (fun z hp1 hI1 => Or.inl ⟨_, rfl, ?_⟩) (fun E hp1 hI1 hE => Or.inr ?_))
  · refine ci2l 8 ⟨u352, _, rfl⟩ rfl (fun w => ?_)
    refine clast 9 hI1.1 ⟨u352, _, rfl⟩ rfl h1 (fun hp2 hH2 F2 => ?_)
    refine cgoto ⟨u352, _, rfl⟩ ?_
    refine ccst 16 (0) ⟨u352, _, rfl⟩ rfl (by decide) (fun z9 h9 => ?_)
    exact cret ⟨u352, _, rfl⟩ (Or.inl rfl) (hR _ _ _ _ (lawI_83 hI1 hH2 F2) (by decide) (by decide))
  · have hE : E ∈ [1] := hE
    simp only [List.mem_cons, List.not_mem_nil, or_false] at hE
    rcases hE with rfl
    · refine ⟨1, 12, 3, 13, rfl, rfl, rfl, rfl, ?_⟩
      refine ccst 14 (1) ⟨u352, _, rfl⟩ rfl (by decide) (fun z9 h9 => ?_)
      exact cret ⟨u352, _, rfl⟩ (Or.inl rfl) (hR _ _ _ _ hI1 (by decide) (by decide))
theorem u353 : bUp 0 am_m353.1 = true := by decide +kernel
theorem h353 {d : Nat} {hp : amH} {R : cQ} {x1 : Int32} (hI : lawI hp) (hR : ∀ (z : Int32) hp1 mc ms, lawI hp1 → mc ≤ 1 → ms ≤ 6 → R (.inl (some (.int z))) hp1 mc ms) : cK (d + 20) 353 [.ref 0, .int x1, .ref 83] hp R := by
  refine cin (M := am_m353) rfl rfl rfl ?_
  refine cald 1 ⟨u353, _, rfl⟩ rfl rfl ?_
  refine ccst 2 (0) ⟨u353, _, rfl⟩ rfl (by decide) (fun z1 h1 => ?_)
  refine cald 3 ⟨u353, _, rfl⟩ rfl rfl ?_
  refine cild 4 ⟨u353, _, rfl⟩ rfl rfl ?_
  refine ccall (kd := 0) (t := 1) [.ref 0, .int _] [.int _, .ref 83] hI.1 ⟨u353, _, rfl⟩ (Or.inl ⟨_, rfl, rfl, by decide, by decide⟩) rfl rfl rfl ⟨rfl, rfl, rfl⟩ rfl (recv0 hI.1 _) rfl (qI (bL8_s be_39 (List.mem_of_getElem? (i := 157) rfl)) (Nat.ble_eq.mpr (by show _ ≤ d + 19; exact Nat.le_trans (by decide : _ ≤ 19) (Nat.le_add_left 19 d))) hI ⟨a0r, ai _, trivial⟩ rfl rfl rfl rfl (fun z hp1 hI1 => Or.inl ⟨_, rfl, ?_⟩) (fun E hp1 hI1 hE => Or.inr ?_))
  · refine ci2l 8 ⟨u353, _, rfl⟩ rfl (fun w => ?_)
    refine clast 9 hI1.1 ⟨u353, _, rfl⟩ rfl h1 (fun hp2 hH2 F2 => ?_)
    refine cgoto ⟨u353, _, rfl⟩ ?_
    refine ccst 16 (0) ⟨u353, _, rfl⟩ rfl (by decide) (fun z9 h9 => ?_)
    exact cret ⟨u353, _, rfl⟩ (Or.inl rfl) (hR _ _ _ _ (lawI_83 hI1 hH2 F2) (by decide) (by decide))
  · have hE : E ∈ [1] := hE
    simp only [List.mem_cons, List.not_mem_nil, or_false] at hE
    rcases hE with rfl
    · refine ⟨1, 12, 3, 13, rfl, rfl, rfl, rfl, ?_⟩
      refine ccst 14 (1) ⟨u353, _, rfl⟩ rfl (by decide) (fun z9 h9 => ?_)
      exact cret ⟨u353, _, rfl⟩ (Or.inl rfl) (hR _ _ _ _ hI1 (by decide) (by decide))
theorem u354 : bUp 0 am_m354.1 = true := by decide +kernel
theorem h354 {d : Nat} {hp : amH} {R : cQ} {x1 x2 x3 : Int32} (hI : lawI hp) (hR : ∀ (z : Int32) hp1 mc ms, lawI hp1 → mc ≤ 1 → ms ≤ 6 → R (.inl (some (.int z))) hp1 mc ms) : cK (d + 20) 354 [.ref 0, .int x1, .int x2, .int x3, .ref 83] hp R := by
  refine cin (M := am_m354) rfl rfl rfl ?_
  refine cald2 2 ⟨u354, _, rfl⟩ rfl rfl ?_
  refine ccst 3 (0) ⟨u354, _, rfl⟩ rfl (by decide) (fun z2 h2 => ?_)
  refine cald 4 ⟨u354, _, rfl⟩ rfl rfl ?_
  refine cild 5 ⟨u354, _, rfl⟩ rfl rfl ?_
  refine cild 6 ⟨u354, _, rfl⟩ rfl rfl ?_
  refine cild 7 ⟨u354, _, rfl⟩ rfl rfl ?_
  refine ccall (kd := 0) (t := 2) [.ref 0, .int _, .int _, .int _] [.int _, .ref 83] hI.1 ⟨u354, _, rfl⟩ (Or.inl ⟨_, rfl, rfl, by decide, by decide⟩) rfl rfl rfl ⟨rfl, rfl, rfl⟩ rfl (recv0 hI.1 _) rfl (qI (bL8_s be_40 (List.mem_of_getElem? (i := 156) rfl)) (Nat.ble_eq.mpr (by show _ ≤ d + 19; exact Nat.le_trans (by decide : _ ≤ 19) (Nat.le_add_left 19 d))) hI ⟨a0r, ai _, ai _, ai _, trivial⟩ rfl rfl rfl rfl (fun z hp1 hI1 => Or.inl ⟨_, rfl, ?_⟩) (fun E hp1 hI1 hE => Or.inr ?_))
  · refine ci2l 11 ⟨u354, _, rfl⟩ rfl (fun w => ?_)
    refine clast 12 hI1.1 ⟨u354, _, rfl⟩ rfl h2 (fun hp2 hH2 F2 => ?_)
    refine cgoto ⟨u354, _, rfl⟩ ?_
    refine ccst 24 (0) ⟨u354, _, rfl⟩ rfl (by decide) (fun z9 h9 => ?_)
    exact cret ⟨u354, _, rfl⟩ (Or.inl rfl) (hR _ _ _ _ (lawI_83 hI1 hH2 F2) (by decide) (by decide))
  · have hE : E ∈ [0, 1] := hE
    simp only [List.mem_cons, List.not_mem_nil, or_false] at hE
    rcases hE with rfl | rfl
    · refine ⟨0, 19, 5, 21, rfl, rfl, rfl, rfl, ?_⟩
      refine ccst 22 (2) ⟨u354, _, rfl⟩ rfl (by decide) (fun z9 h9 => ?_)
      exact cret ⟨u354, _, rfl⟩ (Or.inl rfl) (hR _ _ _ _ hI1 (by decide) (by decide))
    · refine ⟨1, 15, 5, 17, rfl, rfl, rfl, rfl, ?_⟩
      refine ccst 18 (1) ⟨u354, _, rfl⟩ rfl (by decide) (fun z9 h9 => ?_)
      exact cret ⟨u354, _, rfl⟩ (Or.inl rfl) (hR _ _ _ _ hI1 (by decide) (by decide))
theorem u355 : bUp 0 am_m355.1 = true := by decide +kernel
theorem h355 {d : Nat} {hp : amH} {R : cQ} {x1 x2 x3 : Int32} (hI : lawI hp) (hR : ∀ (z : Int32) hp1 mc ms, lawI hp1 → mc ≤ 1 → ms ≤ 6 → R (.inl (some (.int z))) hp1 mc ms) : cK (d + 20) 355 [.ref 0, .int x1, .int x2, .int x3, .ref 83] hp R := by
  refine cin (M := am_m355) rfl rfl rfl ?_
  refine cald2 2 ⟨u355, _, rfl⟩ rfl rfl ?_
  refine ccst 3 (0) ⟨u355, _, rfl⟩ rfl (by decide) (fun z2 h2 => ?_)
  refine cald 4 ⟨u355, _, rfl⟩ rfl rfl ?_
  refine cild 5 ⟨u355, _, rfl⟩ rfl rfl ?_
  refine cild 6 ⟨u355, _, rfl⟩ rfl rfl ?_
  refine cild 7 ⟨u355, _, rfl⟩ rfl rfl ?_
  refine ccall (kd := 0) (t := 3) [.ref 0, .int _, .int _, .int _] [.int _, .ref 83] hI.1 ⟨u355, _, rfl⟩ (Or.inl ⟨_, rfl, rfl, by decide, by decide⟩) rfl rfl rfl ⟨rfl, rfl, rfl⟩ rfl (recv0 hI.1 _) rfl (qI (bL8_s be_47 (List.mem_of_getElem? (i := 149) rfl)) (Nat.ble_eq.mpr (by show _ ≤ d + 19; exact Nat.le_trans (by decide : _ ≤ 19) (Nat.le_add_left 19 d))) hI ⟨a0r, ai _, ai _, ai _, trivial⟩ rfl rfl rfl rfl (fun z hp1 hI1 => Or.inl ⟨_, rfl, ?_⟩) (fun E hp1 hI1 hE => Or.inr ?_))
  · refine ci2l 11 ⟨u355, _, rfl⟩ rfl (fun w => ?_)
    refine clast 12 hI1.1 ⟨u355, _, rfl⟩ rfl h2 (fun hp2 hH2 F2 => ?_)
    refine cgoto ⟨u355, _, rfl⟩ ?_
    refine ccst 28 (0) ⟨u355, _, rfl⟩ rfl (by decide) (fun z9 h9 => ?_)
    exact cret ⟨u355, _, rfl⟩ (Or.inl rfl) (hR _ _ _ _ (lawI_83 hI1 hH2 F2) (by decide) (by decide))
  · have hE : E ∈ [0, 1, 2] := hE
    simp only [List.mem_cons, List.not_mem_nil, or_false] at hE
    rcases hE with rfl | rfl | rfl
    · refine ⟨0, 19, 5, 21, rfl, rfl, rfl, rfl, ?_⟩
      refine ccst 22 (2) ⟨u355, _, rfl⟩ rfl (by decide) (fun z9 h9 => ?_)
      exact cret ⟨u355, _, rfl⟩ (Or.inl rfl) (hR _ _ _ _ hI1 (by decide) (by decide))
    · refine ⟨1, 15, 5, 17, rfl, rfl, rfl, rfl, ?_⟩
      refine ccst 18 (1) ⟨u355, _, rfl⟩ rfl (by decide) (fun z9 h9 => ?_)
      exact cret ⟨u355, _, rfl⟩ (Or.inl rfl) (hR _ _ _ _ hI1 (by decide) (by decide))
    · refine ⟨2, 23, 5, 25, rfl, rfl, rfl, rfl, ?_⟩
      refine ccst 26 (3) ⟨u355, _, rfl⟩ rfl (by decide) (fun z9 h9 => ?_)
      exact cret ⟨u355, _, rfl⟩ (Or.inl rfl) (hR _ _ _ _ hI1 (by decide) (by decide))
theorem u356 : bUp 0 am_m356.1 = true := by decide +kernel
theorem h356 {d : Nat} {hp : amH} {R : cQ} {x1 : Int32} (hI : lawI hp) (hR : ∀ (z : Int32) hp1 mc ms, lawI hp1 → mc ≤ 1 → ms ≤ 6 → R (.inl (some (.int z))) hp1 mc ms) : cK (d + 20) 356 [.ref 0, .int x1, .ref 83] hp R := by
  refine cin (M := am_m356) rfl rfl rfl ?_
  refine cald 1 ⟨u356, _, rfl⟩ rfl rfl ?_
  refine ccst 2 (0) ⟨u356, _, rfl⟩ rfl (by decide) (fun z1 h1 => ?_)
  refine cald 3 ⟨u356, _, rfl⟩ rfl rfl ?_
  refine cild 4 ⟨u356, _, rfl⟩ rfl rfl ?_
  refine ccall (kd := 0) (t := 1) [.ref 0, .int _] [.int _, .ref 83] hI.1 ⟨u356, _, rfl⟩ (Or.inl ⟨_, rfl, rfl, by decide, by decide⟩) rfl rfl rfl ⟨rfl, rfl, rfl⟩ rfl (recv0 hI.1 _) rfl (qI (bL8_s be_49 (List.mem_of_getElem? (i := 147) rfl)) (Nat.ble_eq.mpr (by show _ ≤ d + 19; exact Nat.le_trans (by decide : _ ≤ 19) (Nat.le_add_left 19 d))) hI ⟨a0r, ai _, trivial⟩ rfl rfl rfl rfl (fun z hp1 hI1 => Or.inl ⟨_, rfl, ?_⟩) (fun E hp1 hI1 hE => Or.inr ?_))
  · refine ci2l 8 ⟨u356, _, rfl⟩ rfl (fun w => ?_)
    refine clast 9 hI1.1 ⟨u356, _, rfl⟩ rfl h1 (fun hp2 hH2 F2 => ?_)
    refine cgoto ⟨u356, _, rfl⟩ ?_
    refine ccst 16 (0) ⟨u356, _, rfl⟩ rfl (by decide) (fun z9 h9 => ?_)
    exact cret ⟨u356, _, rfl⟩ (Or.inl rfl) (hR _ _ _ _ (lawI_83 hI1 hH2 F2) (by decide) (by decide))
  · have hE : E ∈ [1] := hE
    simp only [List.mem_cons, List.not_mem_nil, or_false] at hE
    rcases hE with rfl
    · refine ⟨1, 12, 3, 13, rfl, rfl, rfl, rfl, ?_⟩
      refine ccst 14 (1) ⟨u356, _, rfl⟩ rfl (by decide) (fun z9 h9 => ?_)
      exact cret ⟨u356, _, rfl⟩ (Or.inl rfl) (hR _ _ _ _ hI1 (by decide) (by decide))
theorem u357 : bUp 0 am_m357.1 = true := by decide +kernel
theorem h357 {d : Nat} {hp : amH} {R : cQ} {x1 x2 x3 : Int32} (hI : lawI hp) (hR : ∀ (z : Int32) hp1 mc ms, lawI hp1 → mc ≤ 1 → ms ≤ 6 → R (.inl (some (.int z))) hp1 mc ms) : cK (d + 20) 357 [.ref 0, .int x1, .int x2, .int x3, .ref 83] hp R := by
  refine cin (M := am_m357) rfl rfl rfl ?_
  refine cald2 2 ⟨u357, _, rfl⟩ rfl rfl ?_
  refine ccst 3 (0) ⟨u357, _, rfl⟩ rfl (by decide) (fun z2 h2 => ?_)
  refine cald 4 ⟨u357, _, rfl⟩ rfl rfl ?_
  refine cild 5 ⟨u357, _, rfl⟩ rfl rfl ?_
  refine cild 6 ⟨u357, _, rfl⟩ rfl rfl ?_
  refine cild 7 ⟨u357, _, rfl⟩ rfl rfl ?_
  refine ccall (kd := 0) (t := 3) [.ref 0, .int _, .int _, .int _] [.int _, .ref 83] hI.1 ⟨u357, _, rfl⟩ (Or.inl ⟨_, rfl, rfl, by decide, by decide⟩) rfl rfl rfl ⟨rfl, rfl, rfl⟩ rfl (recv0 hI.1 _) rfl (qI (bL8_s be_51 (List.mem_of_getElem? (i := 145) rfl)) (Nat.ble_eq.mpr (by show _ ≤ d + 19; exact Nat.le_trans (by decide : _ ≤ 19) (Nat.le_add_left 19 d))) hI ⟨a0r, ai _, ai _, ai _, trivial⟩ rfl rfl rfl rfl (fun z hp1 hI1 => Or.inl ⟨_, rfl, ?_⟩) (fun E hp1 hI1 hE => Or.inr ?_))
  · refine ci2l 11 ⟨u357, _, rfl⟩ rfl (fun w => ?_)
    refine clast 12 hI1.1 ⟨u357, _, rfl⟩ rfl h2 (fun hp2 hH2 F2 => ?_)
    refine cgoto ⟨u357, _, rfl⟩ ?_
    refine ccst 28 (0) ⟨u357, _, rfl⟩ rfl (by decide) (fun z9 h9 => ?_)
    exact cret ⟨u357, _, rfl⟩ (Or.inl rfl) (hR _ _ _ _ (lawI_83 hI1 hH2 F2) (by decide) (by decide))
  · have hE : E ∈ [0, 1, 2] := hE
    simp only [List.mem_cons, List.not_mem_nil, or_false] at hE
    rcases hE with rfl | rfl | rfl
    · refine ⟨0, 19, 5, 21, rfl, rfl, rfl, rfl, ?_⟩
      refine ccst 22 (2) ⟨u357, _, rfl⟩ rfl (by decide) (fun z9 h9 => ?_)
      exact cret ⟨u357, _, rfl⟩ (Or.inl rfl) (hR _ _ _ _ hI1 (by decide) (by decide))
    · refine ⟨1, 15, 5, 17, rfl, rfl, rfl, rfl, ?_⟩
      refine ccst 18 (1) ⟨u357, _, rfl⟩ rfl (by decide) (fun z9 h9 => ?_)
      exact cret ⟨u357, _, rfl⟩ (Or.inl rfl) (hR _ _ _ _ hI1 (by decide) (by decide))
    · refine ⟨2, 23, 5, 25, rfl, rfl, rfl, rfl, ?_⟩
      refine ccst 26 (3) ⟨u357, _, rfl⟩ rfl (by decide) (fun z9 h9 => ?_)
      exact cret ⟨u357, _, rfl⟩ (Or.inl rfl) (hR _ _ _ _ hI1 (by decide) (by decide))
theorem u358 : bUp 0 am_m358.1 = true := by decide +kernel
theorem h358 {d : Nat} {hp : amH} {R : cQ} {x1 x2 : Int32} (hI : lawI hp) (hR : ∀ (z : Int32) hp1 mc ms, lawI hp1 → mc ≤ 1 → ms ≤ 6 → R (.inl (some (.int z))) hp1 mc ms) : cK (d + 20) 358 [.ref 0, .int x1, .int x2, .ref 83] hp R := by
  refine cin (M := am_m358) rfl rfl rfl ?_
  refine cald 1 ⟨u358, _, rfl⟩ rfl rfl ?_
  refine ccst 2 (0) ⟨u358, _, rfl⟩ rfl (by decide) (fun z1 h1 => ?_)
  refine cald 3 ⟨u358, _, rfl⟩ rfl rfl ?_
  refine cild 4 ⟨u358, _, rfl⟩ rfl rfl ?_
  refine cild 5 ⟨u358, _, rfl⟩ rfl rfl ?_
  refine ccall (kd := 0) (t := 2) [.ref 0, .int _, .int _] [.int _, .ref 83] hI.1 ⟨u358, _, rfl⟩ (Or.inl ⟨_, rfl, rfl, by decide, by decide⟩) rfl rfl rfl ⟨rfl, rfl, rfl⟩ rfl (recv0 hI.1 _) rfl (qI (bL8_s be_72 (List.mem_of_getElem? (i := 124) rfl)) (Nat.ble_eq.mpr (by show _ ≤ d + 19; exact Nat.le_trans (by decide : _ ≤ 19) (Nat.le_add_left 19 d))) hI ⟨a0r, ai _, ai _, trivial⟩ rfl rfl rfl rfl (fun z hp1 hI1 => Or.inl ⟨_, rfl, ?_⟩) (fun E hp1 hI1 hE => Or.inr ?_))
  · refine ci2l 9 ⟨u358, _, rfl⟩ rfl (fun w => ?_)
    refine clast 10 hI1.1 ⟨u358, _, rfl⟩ rfl h1 (fun hp2 hH2 F2 => ?_)
    refine cgoto ⟨u358, _, rfl⟩ ?_
    refine ccst 22 (0) ⟨u358, _, rfl⟩ rfl (by decide) (fun z9 h9 => ?_)
    exact cret ⟨u358, _, rfl⟩ (Or.inl rfl) (hR _ _ _ _ (lawI_83 hI1 hH2 F2) (by decide) (by decide))
  · have hE : E ∈ [0, 1] := hE
    simp only [List.mem_cons, List.not_mem_nil, or_false] at hE
    rcases hE with rfl | rfl
    · refine ⟨0, 17, 4, 19, rfl, rfl, rfl, rfl, ?_⟩
      refine ccst 20 (2) ⟨u358, _, rfl⟩ rfl (by decide) (fun z9 h9 => ?_)
      exact cret ⟨u358, _, rfl⟩ (Or.inl rfl) (hR _ _ _ _ hI1 (by decide) (by decide))
    · refine ⟨1, 13, 4, 15, rfl, rfl, rfl, rfl, ?_⟩
      refine ccst 16 (1) ⟨u358, _, rfl⟩ rfl (by decide) (fun z9 h9 => ?_)
      exact cret ⟨u358, _, rfl⟩ (Or.inl rfl) (hR _ _ _ _ hI1 (by decide) (by decide))
theorem u359 : bUp 0 am_m359.1 = true := by decide +kernel
theorem h359 {d : Nat} {hp : amH} {R : cQ} {x1 x2 : Int32} (hI : lawI hp) (hR : ∀ (z : Int32) hp1 mc ms, lawI hp1 → mc ≤ 1 → ms ≤ 6 → R (.inl (some (.int z))) hp1 mc ms) : cK (d + 20) 359 [.ref 0, .int x1, .int x2, .ref 83] hp R := by
  refine cin (M := am_m359) rfl rfl rfl ?_
  refine cald 1 ⟨u359, _, rfl⟩ rfl rfl ?_
  refine ccst 2 (0) ⟨u359, _, rfl⟩ rfl (by decide) (fun z1 h1 => ?_)
  refine cald 3 ⟨u359, _, rfl⟩ rfl rfl ?_
  refine cild 4 ⟨u359, _, rfl⟩ rfl rfl ?_
  refine cild 5 ⟨u359, _, rfl⟩ rfl rfl ?_
  refine ccall (kd := 0) (t := 1) [.ref 0, .int _, .int _] [.int _, .ref 83] hI.1 ⟨u359, _, rfl⟩ (Or.inl ⟨_, rfl, rfl, by decide, by decide⟩) rfl rfl rfl ⟨rfl, rfl, rfl⟩ rfl (recv0 hI.1 _) rfl (qI (bL8_s be_74 (List.mem_of_getElem? (i := 122) rfl)) (Nat.ble_eq.mpr (by show _ ≤ d + 19; exact Nat.le_trans (by decide : _ ≤ 19) (Nat.le_add_left 19 d))) hI ⟨a0r, ai _, ai _, trivial⟩ rfl rfl rfl rfl (fun z hp1 hI1 => Or.inl ⟨_, rfl, ?_⟩) (fun E hp1 hI1 hE => Or.inr ?_))
  · refine ci2l 9 ⟨u359, _, rfl⟩ rfl (fun w => ?_)
    refine clast 10 hI1.1 ⟨u359, _, rfl⟩ rfl h1 (fun hp2 hH2 F2 => ?_)
    refine cgoto ⟨u359, _, rfl⟩ ?_
    refine ccst 18 (0) ⟨u359, _, rfl⟩ rfl (by decide) (fun z9 h9 => ?_)
    exact cret ⟨u359, _, rfl⟩ (Or.inl rfl) (hR _ _ _ _ (lawI_83 hI1 hH2 F2) (by decide) (by decide))
  · have hE : E ∈ [1] := hE
    simp only [List.mem_cons, List.not_mem_nil, or_false] at hE
    rcases hE with rfl
    · refine ⟨1, 13, 4, 15, rfl, rfl, rfl, rfl, ?_⟩
      refine ccst 16 (1) ⟨u359, _, rfl⟩ rfl (by decide) (fun z9 h9 => ?_)
      exact cret ⟨u359, _, rfl⟩ (Or.inl rfl) (hR _ _ _ _ hI1 (by decide) (by decide))
theorem u360 : bUp 0 am_m360.1 = true := by decide +kernel
theorem h360 {d : Nat} {hp : amH} {R : cQ} {x1 : Int32} (hI : lawI hp) (hR : ∀ (z : Int32) hp1 mc ms, lawI hp1 → mc ≤ 1 → ms ≤ 6 → R (.inl (some (.int z))) hp1 mc ms) : cK (d + 20) 360 [.ref 0, .int x1, .ref 83] hp R := by
  refine cin (M := am_m360) rfl rfl rfl ?_
  refine cald 1 ⟨u360, _, rfl⟩ rfl rfl ?_
  refine ccst 2 (0) ⟨u360, _, rfl⟩ rfl (by decide) (fun z1 h1 => ?_)
  refine cald 3 ⟨u360, _, rfl⟩ rfl rfl ?_
  refine cild 4 ⟨u360, _, rfl⟩ rfl rfl ?_
  refine ccall (kd := 0) (t := 1) [.ref 0, .int _] [.int _, .ref 83] hI.1 ⟨u360, _, rfl⟩ (Or.inl ⟨_, rfl, rfl, by decide, by decide⟩) rfl rfl rfl ⟨rfl, rfl, rfl⟩ rfl (recv0 hI.1 _) rfl (qI (bL8_s be_76 (List.mem_of_getElem? (i := 120) rfl)) (Nat.ble_eq.mpr (by show _ ≤ d + 19; exact Nat.le_trans (by decide : _ ≤ 19) (Nat.le_add_left 19 d))) hI ⟨a0r, ai _, trivial⟩ rfl rfl rfl rfl (fun z hp1 hI1 => Or.inl ⟨_, rfl, ?_⟩) (fun E hp1 hI1 hE => Or.inr ?_))
  · refine ci2l 8 ⟨u360, _, rfl⟩ rfl (fun w => ?_)
    refine clast 9 hI1.1 ⟨u360, _, rfl⟩ rfl h1 (fun hp2 hH2 F2 => ?_)
    refine cgoto ⟨u360, _, rfl⟩ ?_
    refine ccst 16 (0) ⟨u360, _, rfl⟩ rfl (by decide) (fun z9 h9 => ?_)
    exact cret ⟨u360, _, rfl⟩ (Or.inl rfl) (hR _ _ _ _ (lawI_83 hI1 hH2 F2) (by decide) (by decide))
  · have hE : E ∈ [1] := hE
    simp only [List.mem_cons, List.not_mem_nil, or_false] at hE
    rcases hE with rfl
    · refine ⟨1, 12, 3, 13, rfl, rfl, rfl, rfl, ?_⟩
      refine ccst 14 (1) ⟨u360, _, rfl⟩ rfl (by decide) (fun z9 h9 => ?_)
      exact cret ⟨u360, _, rfl⟩ (Or.inl rfl) (hR _ _ _ _ hI1 (by decide) (by decide))
theorem u361 : bUp 0 am_m361.1 = true := by decide +kernel
theorem h361 {d : Nat} {hp : amH} {R : cQ} {x1 : Int32} (hI : lawI hp) (hR : ∀ (z : Int32) hp1 mc ms, lawI hp1 → mc ≤ 1 → ms ≤ 6 → R (.inl (some (.int z))) hp1 mc ms) : cK (d + 20) 361 [.ref 0, .int x1, .ref 83] hp R := by
  refine cin (M := am_m361) rfl rfl rfl ?_
  refine cald 1 ⟨u361, _, rfl⟩ rfl rfl ?_
  refine ccst 2 (0) ⟨u361, _, rfl⟩ rfl (by decide) (fun z1 h1 => ?_)
  refine cald 3 ⟨u361, _, rfl⟩ rfl rfl ?_
  refine cild 4 ⟨u361, _, rfl⟩ rfl rfl ?_
  refine ccall (kd := 0) (t := 1) [.ref 0, .int _] [.int _, .ref 83] hI.1 ⟨u361, _, rfl⟩ (Or.inl ⟨_, rfl, rfl, by decide, by decide⟩) rfl rfl rfl ⟨rfl, rfl, rfl⟩ rfl (recv0 hI.1 _) rfl (qI (bL8_s be_78 (List.mem_of_getElem? (i := 118) rfl)) (Nat.ble_eq.mpr (by show _ ≤ d + 19; exact Nat.le_trans (by decide : _ ≤ 19) (Nat.le_add_left 19 d))) hI ⟨a0r, ai _, trivial⟩ rfl rfl rfl rfl (fun z hp1 hI1 => Or.inl ⟨_, rfl, ?_⟩) (fun E hp1 hI1 hE => Or.inr ?_))
  · refine ci2l 8 ⟨u361, _, rfl⟩ rfl (fun w => ?_)
    refine clast 9 hI1.1 ⟨u361, _, rfl⟩ rfl h1 (fun hp2 hH2 F2 => ?_)
    refine cgoto ⟨u361, _, rfl⟩ ?_
    refine ccst 16 (0) ⟨u361, _, rfl⟩ rfl (by decide) (fun z9 h9 => ?_)
    exact cret ⟨u361, _, rfl⟩ (Or.inl rfl) (hR _ _ _ _ (lawI_83 hI1 hH2 F2) (by decide) (by decide))
  · have hE : E ∈ [1] := hE
    simp only [List.mem_cons, List.not_mem_nil, or_false] at hE
    rcases hE with rfl
    · refine ⟨1, 12, 3, 13, rfl, rfl, rfl, rfl, ?_⟩
      refine ccst 14 (1) ⟨u361, _, rfl⟩ rfl (by decide) (fun z9 h9 => ?_)
      exact cret ⟨u361, _, rfl⟩ (Or.inl rfl) (hR _ _ _ _ hI1 (by decide) (by decide))
theorem u362 : bUp 0 am_m362.1 = true := by decide +kernel
theorem h362 {d : Nat} {hp : amH} {R : cQ} {x1 : Int32} (hI : lawI hp) (hR : ∀ (z : Int32) hp1 mc ms, lawI hp1 → mc ≤ 1 → ms ≤ 6 → R (.inl (some (.int z))) hp1 mc ms) : cK (d + 20) 362 [.ref 0, .int x1, .ref 83] hp R := by
  refine cin (M := am_m362) rfl rfl rfl ?_
  refine cald 1 ⟨u362, _, rfl⟩ rfl rfl ?_
  refine ccst 2 (0) ⟨u362, _, rfl⟩ rfl (by decide) (fun z1 h1 => ?_)
  refine cald 3 ⟨u362, _, rfl⟩ rfl rfl ?_
  refine cild 4 ⟨u362, _, rfl⟩ rfl rfl ?_
  refine ccall (kd := 0) (t := 1) [.ref 0, .int _] [.int _, .ref 83] hI.1 ⟨u362, _, rfl⟩ (Or.inl ⟨_, rfl, rfl, by decide, by decide⟩) rfl rfl rfl ⟨rfl, rfl, rfl⟩ rfl (recv0 hI.1 _) rfl (qI (bL8_s be_84 (List.mem_of_getElem? (i := 112) rfl)) (Nat.ble_eq.mpr (by show _ ≤ d + 19; exact Nat.le_trans (by decide : _ ≤ 19) (Nat.le_add_left 19 d))) hI ⟨a0r, ai _, trivial⟩ rfl rfl rfl rfl (fun z hp1 hI1 => Or.inl ⟨_, rfl, ?_⟩) (fun E hp1 hI1 hE => Or.inr ?_))
  · refine ci2l 8 ⟨u362, _, rfl⟩ rfl (fun w => ?_)
    refine clast 9 hI1.1 ⟨u362, _, rfl⟩ rfl h1 (fun hp2 hH2 F2 => ?_)
    refine cgoto ⟨u362, _, rfl⟩ ?_
    refine ccst 16 (0) ⟨u362, _, rfl⟩ rfl (by decide) (fun z9 h9 => ?_)
    exact cret ⟨u362, _, rfl⟩ (Or.inl rfl) (hR _ _ _ _ (lawI_83 hI1 hH2 F2) (by decide) (by decide))
  · have hE : E ∈ [1] := hE
    simp only [List.mem_cons, List.not_mem_nil, or_false] at hE
    rcases hE with rfl
    · refine ⟨1, 12, 3, 13, rfl, rfl, rfl, rfl, ?_⟩
      refine ccst 14 (1) ⟨u362, _, rfl⟩ rfl (by decide) (fun z9 h9 => ?_)
      exact cret ⟨u362, _, rfl⟩ (Or.inl rfl) (hR _ _ _ _ hI1 (by decide) (by decide))
theorem u363 : bUp 0 am_m363.1 = true := by decide +kernel
theorem h363 {d : Nat} {hp : amH} {R : cQ} {x1 : Int32} (hI : lawI hp) (hR : ∀ (z : Int32) hp1 mc ms, lawI hp1 → mc ≤ 1 → ms ≤ 6 → R (.inl (some (.int z))) hp1 mc ms) : cK (d + 20) 363 [.ref 0, .int x1, .ref 83] hp R := by
  refine cin (M := am_m363) rfl rfl rfl ?_
  refine cald 1 ⟨u363, _, rfl⟩ rfl rfl ?_
  refine ccst 2 (0) ⟨u363, _, rfl⟩ rfl (by decide) (fun z1 h1 => ?_)
  refine cald 3 ⟨u363, _, rfl⟩ rfl rfl ?_
  refine cild 4 ⟨u363, _, rfl⟩ rfl rfl ?_
  refine ccall (kd := 0) (t := 1) [.ref 0, .int _] [.int _, .ref 83] hI.1 ⟨u363, _, rfl⟩ (Or.inl ⟨_, rfl, rfl, by decide, by decide⟩) rfl rfl rfl ⟨rfl, rfl, rfl⟩ rfl (recv0 hI.1 _) rfl (qI (bL8_s be_89 (List.mem_of_getElem? (i := 107) rfl)) (Nat.ble_eq.mpr (by show _ ≤ d + 19; exact Nat.le_trans (by decide : _ ≤ 19) (Nat.le_add_left 19 d))) hI ⟨a0r, ai _, trivial⟩ rfl rfl rfl rfl (fun z hp1 hI1 => Or.inl ⟨_, rfl, ?_⟩) (fun E hp1 hI1 hE => Or.inr ?_))
  · refine ci2l 8 ⟨u363, _, rfl⟩ rfl (fun w => ?_)
    refine clast 9 hI1.1 ⟨u363, _, rfl⟩ rfl h1 (fun hp2 hH2 F2 => ?_)
    refine cgoto ⟨u363, _, rfl⟩ ?_
    refine ccst 16 (0) ⟨u363, _, rfl⟩ rfl (by decide) (fun z9 h9 => ?_)
    exact cret ⟨u363, _, rfl⟩ (Or.inl rfl) (hR _ _ _ _ (lawI_83 hI1 hH2 F2) (by decide) (by decide))
  · have hE : E ∈ [1] := hE
    simp only [List.mem_cons, List.not_mem_nil, or_false] at hE
    rcases hE with rfl
    · refine ⟨1, 12, 3, 13, rfl, rfl, rfl, rfl, ?_⟩
      refine ccst 14 (1) ⟨u363, _, rfl⟩ rfl (by decide) (fun z9 h9 => ?_)
      exact cret ⟨u363, _, rfl⟩ (Or.inl rfl) (hR _ _ _ _ hI1 (by decide) (by decide))
theorem u364 : bUp 0 am_m364.1 = true := by decide +kernel
theorem h364 {d : Nat} {hp : amH} {R : cQ} {x1 : Int32} (hI : lawI hp) (hR : ∀ (z : Int32) hp1 mc ms, lawI hp1 → mc ≤ 1 → ms ≤ 6 → R (.inl (some (.int z))) hp1 mc ms) : cK (d + 20) 364 [.ref 0, .int x1, .ref 83] hp R := by
  refine cin (M := am_m364) rfl rfl rfl ?_
  refine cald 1 ⟨u364, _, rfl⟩ rfl rfl ?_
  refine ccst 2 (0) ⟨u364, _, rfl⟩ rfl (by decide) (fun z1 h1 => ?_)
  refine cald 3 ⟨u364, _, rfl⟩ rfl rfl ?_
  refine cild 4 ⟨u364, _, rfl⟩ rfl rfl ?_
  refine ccall (kd := 0) (t := 1) [.ref 0, .int _] [.int _, .ref 83] hI.1 ⟨u364, _, rfl⟩ (Or.inl ⟨_, rfl, rfl, by decide, by decide⟩) rfl rfl rfl ⟨rfl, rfl, rfl⟩ rfl (recv0 hI.1 _) rfl (qI (bL8_s be_91 (List.mem_of_getElem? (i := 105) rfl)) (Nat.ble_eq.mpr (by show _ ≤ d + 19; exact Nat.le_trans (by decide : _ ≤ 19) (Nat.le_add_left 19 d))) hI ⟨a0r, ai _, trivial⟩ rfl rfl rfl rfl (fun z hp1 hI1 => Or.inl ⟨_, rfl, ?_⟩) (fun E hp1 hI1 hE => Or.inr ?_))
  · refine ci2l 8 ⟨u364, _, rfl⟩ rfl (fun w => ?_)
    refine clast 9 hI1.1 ⟨u364, _, rfl⟩ rfl h1 (fun hp2 hH2 F2 => ?_)
    refine cgoto ⟨u364, _, rfl⟩ ?_
    refine ccst 16 (0) ⟨u364, _, rfl⟩ rfl (by decide) (fun z9 h9 => ?_)
    exact cret ⟨u364, _, rfl⟩ (Or.inl rfl) (hR _ _ _ _ (lawI_83 hI1 hH2 F2) (by decide) (by decide))
  · have hE : E ∈ [0] := hE
    simp only [List.mem_cons, List.not_mem_nil, or_false] at hE
    rcases hE with rfl
    · refine ⟨0, 12, 3, 13, rfl, rfl, rfl, rfl, ?_⟩
      refine ccst 14 (1) ⟨u364, _, rfl⟩ rfl (by decide) (fun z9 h9 => ?_)
      exact cret ⟨u364, _, rfl⟩ (Or.inl rfl) (hR _ _ _ _ hI1 (by decide) (by decide))
theorem u365 : bUp 0 am_m365.1 = true := by decide +kernel
theorem h365 {d : Nat} {hp : amH} {R : cQ} {x1 x2 : Int32} (hI : lawI hp) (hR : ∀ (z : Int32) hp1 mc ms, lawI hp1 → mc ≤ 1 → ms ≤ 6 → R (.inl (some (.int z))) hp1 mc ms) : cK (d + 20) 365 [.ref 0, .int x1, .int x2, .ref 83] hp R := by
  refine cin (M := am_m365) rfl rfl rfl ?_
  refine cald 1 ⟨u365, _, rfl⟩ rfl rfl ?_
  refine ccst 2 (0) ⟨u365, _, rfl⟩ rfl (by decide) (fun z1 h1 => ?_)
  refine cald 3 ⟨u365, _, rfl⟩ rfl rfl ?_
  refine cild 4 ⟨u365, _, rfl⟩ rfl rfl ?_
  refine cild 5 ⟨u365, _, rfl⟩ rfl rfl ?_
  refine ccall (kd := 0) (t := 2) [.ref 0, .int _, .int _] [.int _, .ref 83] hI.1 ⟨u365, _, rfl⟩ (Or.inl ⟨_, rfl, rfl, by decide, by decide⟩) rfl rfl rfl ⟨rfl, rfl, rfl⟩ rfl (recv0 hI.1 _) rfl (qI (bL8_s be_94 (List.mem_of_getElem? (i := 97) rfl)) (Nat.ble_eq.mpr (by show _ ≤ d + 19; exact Nat.le_trans (by decide : _ ≤ 19) (Nat.le_add_left 19 d))) hI ⟨a0r, ai _, ai _, trivial⟩ rfl rfl rfl rfl (fun z hp1 hI1 => Or.inl ⟨_, rfl, ?_⟩) (fun E hp1 hI1 hE => Or.inr ?_))
  · refine ci2l 9 ⟨u365, _, rfl⟩ rfl (fun w => ?_)
    refine clast 10 hI1.1 ⟨u365, _, rfl⟩ rfl h1 (fun hp2 hH2 F2 => ?_)
    refine cgoto ⟨u365, _, rfl⟩ ?_
    refine ccst 22 (0) ⟨u365, _, rfl⟩ rfl (by decide) (fun z9 h9 => ?_)
    exact cret ⟨u365, _, rfl⟩ (Or.inl rfl) (hR _ _ _ _ (lawI_83 hI1 hH2 F2) (by decide) (by decide))
  · have hE : E ∈ [0, 1] := hE
    simp only [List.mem_cons, List.not_mem_nil, or_false] at hE
    rcases hE with rfl | rfl
    · refine ⟨0, 17, 4, 19, rfl, rfl, rfl, rfl, ?_⟩
      refine ccst 20 (2) ⟨u365, _, rfl⟩ rfl (by decide) (fun z9 h9 => ?_)
      exact cret ⟨u365, _, rfl⟩ (Or.inl rfl) (hR _ _ _ _ hI1 (by decide) (by decide))
    · refine ⟨1, 13, 4, 15, rfl, rfl, rfl, rfl, ?_⟩
      refine ccst 16 (1) ⟨u365, _, rfl⟩ rfl (by decide) (fun z9 h9 => ?_)
      exact cret ⟨u365, _, rfl⟩ (Or.inl rfl) (hR _ _ _ _ hI1 (by decide) (by decide))
theorem u366 : bUp 0 am_m366.1 = true := by decide +kernel
theorem h366 {d : Nat} {hp : amH} {R : cQ} {x1 x2 x3 : Int32} (hI : lawI hp) (hR : ∀ (z : Int32) hp1 mc ms, lawI hp1 → mc ≤ 1 → ms ≤ 6 → R (.inl (some (.int z))) hp1 mc ms) : cK (d + 20) 366 [.ref 0, .int x1, .int x2, .int x3, .ref 83] hp R := by
  refine cin (M := am_m366) rfl rfl rfl ?_
  refine cald2 2 ⟨u366, _, rfl⟩ rfl rfl ?_
  refine ccst 3 (0) ⟨u366, _, rfl⟩ rfl (by decide) (fun z2 h2 => ?_)
  refine cald 4 ⟨u366, _, rfl⟩ rfl rfl ?_
  refine cild 5 ⟨u366, _, rfl⟩ rfl rfl ?_
  refine cild 6 ⟨u366, _, rfl⟩ rfl rfl ?_
  refine cild 7 ⟨u366, _, rfl⟩ rfl rfl ?_
  refine ccall (kd := 0) (t := 3) [.ref 0, .int _, .int _, .int _] [.int _, .ref 83] hI.1 ⟨u366, _, rfl⟩ (Or.inl ⟨_, rfl, rfl, by decide, by decide⟩) rfl rfl rfl ⟨rfl, rfl, rfl⟩ rfl (recv0 hI.1 _) rfl (qI (bL8_s be_97 (List.mem_of_getElem? (i := 94) rfl)) (Nat.ble_eq.mpr (by show _ ≤ d + 19; exact Nat.le_trans (by decide : _ ≤ 19) (Nat.le_add_left 19 d))) hI ⟨a0r, ai _, ai _, ai _, trivial⟩ rfl rfl rfl rfl (fun z hp1 hI1 => Or.inl ⟨_, rfl, ?_⟩) (fun E hp1 hI1 hE => Or.inr ?_))
  · refine ci2l 11 ⟨u366, _, rfl⟩ rfl (fun w => ?_)
    refine clast 12 hI1.1 ⟨u366, _, rfl⟩ rfl h2 (fun hp2 hH2 F2 => ?_)
    refine cgoto ⟨u366, _, rfl⟩ ?_
    refine ccst 28 (0) ⟨u366, _, rfl⟩ rfl (by decide) (fun z9 h9 => ?_)
    exact cret ⟨u366, _, rfl⟩ (Or.inl rfl) (hR _ _ _ _ (lawI_83 hI1 hH2 F2) (by decide) (by decide))
  · have hE : E ∈ [0, 1, 3] := hE
    simp only [List.mem_cons, List.not_mem_nil, or_false] at hE
    rcases hE with rfl | rfl | rfl
    · refine ⟨0, 19, 5, 21, rfl, rfl, rfl, rfl, ?_⟩
      refine ccst 22 (2) ⟨u366, _, rfl⟩ rfl (by decide) (fun z9 h9 => ?_)
      exact cret ⟨u366, _, rfl⟩ (Or.inl rfl) (hR _ _ _ _ hI1 (by decide) (by decide))
    · refine ⟨1, 15, 5, 17, rfl, rfl, rfl, rfl, ?_⟩
      refine ccst 18 (1) ⟨u366, _, rfl⟩ rfl (by decide) (fun z9 h9 => ?_)
      exact cret ⟨u366, _, rfl⟩ (Or.inl rfl) (hR _ _ _ _ hI1 (by decide) (by decide))
    · refine ⟨3, 23, 5, 25, rfl, rfl, rfl, rfl, ?_⟩
      refine ccst 26 (3) ⟨u366, _, rfl⟩ rfl (by decide) (fun z9 h9 => ?_)
      exact cret ⟨u366, _, rfl⟩ (Or.inl rfl) (hR _ _ _ _ hI1 (by decide) (by decide))
