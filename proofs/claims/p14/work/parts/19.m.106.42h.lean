/-! ##### 19.m.106.42h ##### -/
section
/-! ===== the queries' helpers keep one state ===== -/
theorem u348J : bUp 0 am_m348.1 = true := by decide +kernel
theorem h348J {d : Nat} {hp : amH} {R : cQ} {x1 : Int32} (hI : lawJ hp) (hR : ∀ (z : Int32) hp1 mc ms, lawJ hp1 → mc ≤ 1 → ms ≤ 6 → R (.inl (some (.int z))) hp1 mc ms) : cK (d + 20) 348 [.ref 0, .int x1, .ref 83] hp R := by
  refine cin (M := am_m348) rfl rfl rfl ?_
  refine cald 1 ⟨u348J, _, rfl⟩ rfl rfl ?_
  refine ccst 2 (0) ⟨u348J, _, rfl⟩ rfl (by decide) (fun z1 h1 => ?_)
  refine cald 3 ⟨u348J, _, rfl⟩ rfl rfl ?_
  refine cild 4 ⟨u348J, _, rfl⟩ rfl rfl ?_
  refine ccall (kd := 0) (t := 1) [.ref 0, .int _] [.int _, .ref 83] hI.1.1 ⟨u348J, _, rfl⟩ (Or.inl ⟨_, rfl, rfl, by decide, by decide⟩) rfl rfl rfl ⟨rfl, rfl, rfl⟩ rfl (recv0 hI.1.1 _) rfl (qIJ (bL8_s be_31 (List.mem_of_getElem? (i := 165) rfl)) (Nat.ble_eq.mpr (by show _ ≤ d + 19; exact Nat.le_trans (by decide : _ ≤ 19) (Nat.le_add_left 19 d))) hI ⟨a0r, ai _, trivial⟩ rfl rfl rfl (fun z hp1 hI1 => Or.inl ⟨_, rfl, ?_⟩) (fun E hp1 hI1 hE => Or.inr ?_))
  · refine ci2l 8 ⟨u348J, _, rfl⟩ rfl (fun w => ?_)
    refine clast 9 hI1.1.1 ⟨u348J, _, rfl⟩ rfl h1 (fun hp2 hH2 F2 => ?_)
    refine cgoto ⟨u348J, _, rfl⟩ ?_
    refine ccst 16 (0) ⟨u348J, _, rfl⟩ rfl (by decide) (fun z9 h9 => ?_)
    exact cret ⟨u348J, _, rfl⟩ (Or.inl rfl) (hR _ _ _ _ (lawJ_83 hI1 hH2 F2) (by decide) (by decide))
  · have hE : E ∈ [0] := hE
    simp only [List.mem_cons, List.not_mem_nil, or_false] at hE
    rcases hE with rfl
    · refine ⟨0, 12, 3, 13, rfl, rfl, rfl, rfl, ?_⟩
      refine ccst 14 (1) ⟨u348J, _, rfl⟩ rfl (by decide) (fun z9 h9 => ?_)
      exact cret ⟨u348J, _, rfl⟩ (Or.inl rfl) (hR _ _ _ _ hI1 (by decide) (by decide))
theorem u349J : bUp 0 am_m349.1 = true := by decide +kernel
theorem h349J {d : Nat} {hp : amH} {R : cQ} {x1 x2 : Int32} (hI : lawJ hp) (hR : ∀ (z : Int32) hp1 mc ms, lawJ hp1 → mc ≤ 1 → ms ≤ 6 → R (.inl (some (.int z))) hp1 mc ms) : cK (d + 20) 349 [.ref 0, .int x1, .int x2, .ref 83] hp R := by
  refine cin (M := am_m349) rfl rfl rfl ?_
  refine cald 1 ⟨u349J, _, rfl⟩ rfl rfl ?_
  refine ccst 2 (0) ⟨u349J, _, rfl⟩ rfl (by decide) (fun z1 h1 => ?_)
  refine cald 3 ⟨u349J, _, rfl⟩ rfl rfl ?_
  refine cild 4 ⟨u349J, _, rfl⟩ rfl rfl ?_
  refine cild 5 ⟨u349J, _, rfl⟩ rfl rfl ?_
  refine ccall (kd := 0) (t := 2) [.ref 0, .int _, .int _] [.int _, .ref 83] hI.1.1 ⟨u349J, _, rfl⟩ (Or.inl ⟨_, rfl, rfl, by decide, by decide⟩) rfl rfl rfl ⟨rfl, rfl, rfl⟩ rfl (recv0 hI.1.1 _) rfl (qIJ (bL8_s be_33 (List.mem_of_getElem? (i := 163) rfl)) (Nat.ble_eq.mpr (by show _ ≤ d + 19; exact Nat.le_trans (by decide : _ ≤ 19) (Nat.le_add_left 19 d))) hI ⟨a0r, ai _, ai _, trivial⟩ rfl rfl rfl (fun z hp1 hI1 => Or.inl ⟨_, rfl, ?_⟩) (fun E hp1 hI1 hE => Or.inr ?_))
  · refine ci2l 9 ⟨u349J, _, rfl⟩ rfl (fun w => ?_)
    refine clast 10 hI1.1.1 ⟨u349J, _, rfl⟩ rfl h1 (fun hp2 hH2 F2 => ?_)
    refine cgoto ⟨u349J, _, rfl⟩ ?_
    refine ccst 22 (0) ⟨u349J, _, rfl⟩ rfl (by decide) (fun z9 h9 => ?_)
    exact cret ⟨u349J, _, rfl⟩ (Or.inl rfl) (hR _ _ _ _ (lawJ_83 hI1 hH2 F2) (by decide) (by decide))
  · have hE : E ∈ [0, 1] := hE
    simp only [List.mem_cons, List.not_mem_nil, or_false] at hE
    rcases hE with rfl | rfl
    · refine ⟨0, 17, 4, 19, rfl, rfl, rfl, rfl, ?_⟩
      refine ccst 20 (2) ⟨u349J, _, rfl⟩ rfl (by decide) (fun z9 h9 => ?_)
      exact cret ⟨u349J, _, rfl⟩ (Or.inl rfl) (hR _ _ _ _ hI1 (by decide) (by decide))
    · refine ⟨1, 13, 4, 15, rfl, rfl, rfl, rfl, ?_⟩
      refine ccst 16 (1) ⟨u349J, _, rfl⟩ rfl (by decide) (fun z9 h9 => ?_)
      exact cret ⟨u349J, _, rfl⟩ (Or.inl rfl) (hR _ _ _ _ hI1 (by decide) (by decide))
theorem u350J : bUp 0 am_m350.1 = true := by decide +kernel
theorem h350J {d : Nat} {hp : amH} {R : cQ} {x1 x2 x3 : Int32} (hI : lawJ hp) (hR : ∀ (z : Int32) hp1 mc ms, lawJ hp1 → mc ≤ 1 → ms ≤ 6 → R (.inl (some (.int z))) hp1 mc ms) : cK (d + 20) 350 [.ref 0, .int x1, .int x2, .int x3, .ref 83] hp R := by
  refine cin (M := am_m350) rfl rfl rfl ?_
  refine cald2 2 ⟨u350J, _, rfl⟩ rfl rfl ?_
  refine ccst 3 (0) ⟨u350J, _, rfl⟩ rfl (by decide) (fun z2 h2 => ?_)
  refine cald 4 ⟨u350J, _, rfl⟩ rfl rfl ?_
  refine cild 5 ⟨u350J, _, rfl⟩ rfl rfl ?_
  refine cild 6 ⟨u350J, _, rfl⟩ rfl rfl ?_
  refine cild 7 ⟨u350J, _, rfl⟩ rfl rfl ?_
  refine ccall (kd := 0) (t := 2) [.ref 0, .int _, .int _, .int _] [.int _, .ref 83] hI.1.1 ⟨u350J, _, rfl⟩ (Or.inl ⟨_, rfl, rfl, by decide, by decide⟩) rfl rfl rfl ⟨rfl, rfl, rfl⟩ rfl (recv0 hI.1.1 _) rfl (qIJ (bL8_s be_34 (List.mem_of_getElem? (i := 162) rfl)) (Nat.ble_eq.mpr (by show _ ≤ d + 19; exact Nat.le_trans (by decide : _ ≤ 19) (Nat.le_add_left 19 d))) hI ⟨a0r, ai _, ai _, ai _, trivial⟩ rfl rfl rfl (fun z hp1 hI1 => Or.inl ⟨_, rfl, ?_⟩) (fun E hp1 hI1 hE => Or.inr ?_))
  · refine ci2l 11 ⟨u350J, _, rfl⟩ rfl (fun w => ?_)
    refine clast 12 hI1.1.1 ⟨u350J, _, rfl⟩ rfl h2 (fun hp2 hH2 F2 => ?_)
    refine cgoto ⟨u350J, _, rfl⟩ ?_
    refine ccst 24 (0) ⟨u350J, _, rfl⟩ rfl (by decide) (fun z9 h9 => ?_)
    exact cret ⟨u350J, _, rfl⟩ (Or.inl rfl) (hR _ _ _ _ (lawJ_83 hI1 hH2 F2) (by decide) (by decide))
  · have hE : E ∈ [0, 1] := hE
    simp only [List.mem_cons, List.not_mem_nil, or_false] at hE
    rcases hE with rfl | rfl
    · refine ⟨0, 19, 5, 21, rfl, rfl, rfl, rfl, ?_⟩
      refine ccst 22 (2) ⟨u350J, _, rfl⟩ rfl (by decide) (fun z9 h9 => ?_)
      exact cret ⟨u350J, _, rfl⟩ (Or.inl rfl) (hR _ _ _ _ hI1 (by decide) (by decide))
    · refine ⟨1, 15, 5, 17, rfl, rfl, rfl, rfl, ?_⟩
      refine ccst 18 (1) ⟨u350J, _, rfl⟩ rfl (by decide) (fun z9 h9 => ?_)
      exact cret ⟨u350J, _, rfl⟩ (Or.inl rfl) (hR _ _ _ _ hI1 (by decide) (by decide))
theorem u351J : bUp 0 am_m351.1 = true := by decide +kernel
theorem h351J {d : Nat} {hp : amH} {R : cQ} {x1 x2 : Int32} (hI : lawJ hp) (hR : ∀ (z : Int32) hp1 mc ms, lawJ hp1 → mc ≤ 1 → ms ≤ 6 → R (.inl (some (.int z))) hp1 mc ms) : cK (d + 20) 351 [.ref 0, .int x1, .int x2, .ref 83] hp R := by
  refine cin (M := am_m351) rfl rfl rfl ?_
  refine cald 1 ⟨u351J, _, rfl⟩ rfl rfl ?_
  refine ccst 2 (0) ⟨u351J, _, rfl⟩ rfl (by decide) (fun z1 h1 => ?_)
  refine cald 3 ⟨u351J, _, rfl⟩ rfl rfl ?_
  refine cild 4 ⟨u351J, _, rfl⟩ rfl rfl ?_
  refine cild 5 ⟨u351J, _, rfl⟩ rfl rfl ?_
  refine ccall (kd := 0) (t := 2) [.ref 0, .int _, .int _] [.int _, .ref 83] hI.1.1 ⟨u351J, _, rfl⟩ (Or.inl ⟨_, rfl, rfl, by decide, by decide⟩) rfl rfl rfl ⟨rfl, rfl, rfl⟩ rfl (recv0 hI.1.1 _) rfl (qIJ (bL8_s be_35 (List.mem_of_getElem? (i := 161) rfl)) (Nat.ble_eq.mpr (by show _ ≤ d + 19; exact Nat.le_trans (by decide : _ ≤ 19) (Nat.le_add_left 19 d))) hI ⟨a0r, ai _, ai _, trivial⟩ rfl rfl rfl (fun z hp1 hI1 => Or.inl ⟨_, rfl, ?_⟩) (fun E hp1 hI1 hE => Or.inr ?_))
  · refine ci2l 9 ⟨u351J, _, rfl⟩ rfl (fun w => ?_)
    refine clast 10 hI1.1.1 ⟨u351J, _, rfl⟩ rfl h1 (fun hp2 hH2 F2 => ?_)
    refine cgoto ⟨u351J, _, rfl⟩ ?_
    refine ccst 22 (0) ⟨u351J, _, rfl⟩ rfl (by decide) (fun z9 h9 => ?_)
    exact cret ⟨u351J, _, rfl⟩ (Or.inl rfl) (hR _ _ _ _ (lawJ_83 hI1 hH2 F2) (by decide) (by decide))
  · have hE : E ∈ [0, 1] := hE
    simp only [List.mem_cons, List.not_mem_nil, or_false] at hE
    rcases hE with rfl | rfl
    · refine ⟨0, 17, 4, 19, rfl, rfl, rfl, rfl, ?_⟩
      refine ccst 20 (2) ⟨u351J, _, rfl⟩ rfl (by decide) (fun z9 h9 => ?_)
      exact cret ⟨u351J, _, rfl⟩ (Or.inl rfl) (hR _ _ _ _ hI1 (by decide) (by decide))
    · refine ⟨1, 13, 4, 15, rfl, rfl, rfl, rfl, ?_⟩
      refine ccst 16 (1) ⟨u351J, _, rfl⟩ rfl (by decide) (fun z9 h9 => ?_)
      exact cret ⟨u351J, _, rfl⟩ (Or.inl rfl) (hR _ _ _ _ hI1 (by decide) (by decide))
theorem u352J : bUp 0 am_m352.1 = true := by decide +kernel
theorem h352J {d : Nat} {hp : amH} {R : cQ} {x1 : Int32} (hI : lawJ hp) (hR : ∀ (z : Int32) hp1 mc ms, lawJ hp1 → mc ≤ 1 → ms ≤ 6 → R (.inl (some (.int z))) hp1 mc ms) : cK (d + 20) 352 [.ref 0, .int x1, .ref 83] hp R := by
  refine cin (M := am_m352) rfl rfl rfl ?_
  refine cald 1 ⟨u352J, _, rfl⟩ rfl rfl ?_
  refine ccst 2 (0) ⟨u352J, _, rfl⟩ rfl (by decide) (fun z1 h1 => ?_)
  refine cald 3 ⟨u352J, _, rfl⟩ rfl rfl ?_
  refine cild 4 ⟨u352J, _, rfl⟩ rfl rfl ?_
  refine ccall (kd := 0) (t := 1) [.ref 0, .int _] [.int _, .ref 83] hI.1.1 ⟨u352J, _, rfl⟩ (Or.inl ⟨_, rfl, rfl, by decide, by decide⟩) rfl rfl rfl ⟨rfl, rfl, rfl⟩ rfl (recv0 hI.1.1 _) rfl (qIJ (bL8_s be_37 (List.mem_of_getElem? (i := 159) rfl)) (Nat.ble_eq.mpr (by show _ ≤ d + 19; exact Nat.le_trans (by decide : _ ≤ 19) (Nat.le_add_left 19 d))) hI ⟨a0r, ai _, trivial⟩ rfl rfl rfl (fun z hp1 hI1 => Or.inl ⟨_, rfl, ?_⟩) (fun E hp1 hI1 hE => Or.inr ?_))
  · refine ci2l 8 ⟨u352J, _, rfl⟩ rfl (fun w => ?_)
    refine clast 9 hI1.1.1 ⟨u352J, _, rfl⟩ rfl h1 (fun hp2 hH2 F2 => ?_)
    refine cgoto ⟨u352J, _, rfl⟩ ?_
    refine ccst 16 (0) ⟨u352J, _, rfl⟩ rfl (by decide) (fun z9 h9 => ?_)
    exact cret ⟨u352J, _, rfl⟩ (Or.inl rfl) (hR _ _ _ _ (lawJ_83 hI1 hH2 F2) (by decide) (by decide))
  · have hE : E ∈ [1] := hE
    simp only [List.mem_cons, List.not_mem_nil, or_false] at hE
    rcases hE with rfl
    · refine ⟨1, 12, 3, 13, rfl, rfl, rfl, rfl, ?_⟩
      refine ccst 14 (1) ⟨u352J, _, rfl⟩ rfl (by decide) (fun z9 h9 => ?_)
      exact cret ⟨u352J, _, rfl⟩ (Or.inl rfl) (hR _ _ _ _ hI1 (by decide) (by decide))
theorem u353J : bUp 0 am_m353.1 = true := by decide +kernel
theorem h353J {d : Nat} {hp : amH} {R : cQ} {x1 : Int32} (hI : lawJ hp) (hR : ∀ (z : Int32) hp1 mc ms, lawJ hp1 → mc ≤ 1 → ms ≤ 6 → R (.inl (some (.int z))) hp1 mc ms) : cK (d + 20) 353 [.ref 0, .int x1, .ref 83] hp R := by
  refine cin (M := am_m353) rfl rfl rfl ?_
  refine cald 1 ⟨u353J, _, rfl⟩ rfl rfl ?_
  refine ccst 2 (0) ⟨u353J, _, rfl⟩ rfl (by decide) (fun z1 h1 => ?_)
  refine cald 3 ⟨u353J, _, rfl⟩ rfl rfl ?_
  refine cild 4 ⟨u353J, _, rfl⟩ rfl rfl ?_
  refine ccall (kd := 0) (t := 1) [.ref 0, .int _] [.int _, .ref 83] hI.1.1 ⟨u353J, _, rfl⟩ (Or.inl ⟨_, rfl, rfl, by decide, by decide⟩) rfl rfl rfl ⟨rfl, rfl, rfl⟩ rfl (recv0 hI.1.1 _) rfl (qIJ (bL8_s be_39 (List.mem_of_getElem? (i := 157) rfl)) (Nat.ble_eq.mpr (by show _ ≤ d + 19; exact Nat.le_trans (by decide : _ ≤ 19) (Nat.le_add_left 19 d))) hI ⟨a0r, ai _, trivial⟩ rfl rfl rfl (fun z hp1 hI1 => Or.inl ⟨_, rfl, ?_⟩) (fun E hp1 hI1 hE => Or.inr ?_))
  · refine ci2l 8 ⟨u353J, _, rfl⟩ rfl (fun w => ?_)
    refine clast 9 hI1.1.1 ⟨u353J, _, rfl⟩ rfl h1 (fun hp2 hH2 F2 => ?_)
    refine cgoto ⟨u353J, _, rfl⟩ ?_
    refine ccst 16 (0) ⟨u353J, _, rfl⟩ rfl (by decide) (fun z9 h9 => ?_)
    exact cret ⟨u353J, _, rfl⟩ (Or.inl rfl) (hR _ _ _ _ (lawJ_83 hI1 hH2 F2) (by decide) (by decide))
  · have hE : E ∈ [1] := hE
    simp only [List.mem_cons, List.not_mem_nil, or_false] at hE
    rcases hE with rfl
    · refine ⟨1, 12, 3, 13, rfl, rfl, rfl, rfl, ?_⟩
      refine ccst 14 (1) ⟨u353J, _, rfl⟩ rfl (by decide) (fun z9 h9 => ?_)
      exact cret ⟨u353J, _, rfl⟩ (Or.inl rfl) (hR _ _ _ _ hI1 (by decide) (by decide))
theorem u354J : bUp 0 am_m354.1 = true := by decide +kernel
theorem u358J : bUp 0 am_m358.1 = true := by decide +kernel
theorem h358J {d : Nat} {hp : amH} {R : cQ} {x1 x2 : Int32} (hI : lawJ hp) (hR : ∀ (z : Int32) hp1 mc ms, lawJ hp1 → mc ≤ 1 → ms ≤ 6 → R (.inl (some (.int z))) hp1 mc ms) : cK (d + 20) 358 [.ref 0, .int x1, .int x2, .ref 83] hp R := by
  refine cin (M := am_m358) rfl rfl rfl ?_
  refine cald 1 ⟨u358J, _, rfl⟩ rfl rfl ?_
  refine ccst 2 (0) ⟨u358J, _, rfl⟩ rfl (by decide) (fun z1 h1 => ?_)
  refine cald 3 ⟨u358J, _, rfl⟩ rfl rfl ?_
  refine cild 4 ⟨u358J, _, rfl⟩ rfl rfl ?_
  refine cild 5 ⟨u358J, _, rfl⟩ rfl rfl ?_
  refine ccall (kd := 0) (t := 2) [.ref 0, .int _, .int _] [.int _, .ref 83] hI.1.1 ⟨u358J, _, rfl⟩ (Or.inl ⟨_, rfl, rfl, by decide, by decide⟩) rfl rfl rfl ⟨rfl, rfl, rfl⟩ rfl (recv0 hI.1.1 _) rfl (qIJ (bL8_s be_72 (List.mem_of_getElem? (i := 124) rfl)) (Nat.ble_eq.mpr (by show _ ≤ d + 19; exact Nat.le_trans (by decide : _ ≤ 19) (Nat.le_add_left 19 d))) hI ⟨a0r, ai _, ai _, trivial⟩ rfl rfl rfl (fun z hp1 hI1 => Or.inl ⟨_, rfl, ?_⟩) (fun E hp1 hI1 hE => Or.inr ?_))
  · refine ci2l 9 ⟨u358J, _, rfl⟩ rfl (fun w => ?_)
    refine clast 10 hI1.1.1 ⟨u358J, _, rfl⟩ rfl h1 (fun hp2 hH2 F2 => ?_)
    refine cgoto ⟨u358J, _, rfl⟩ ?_
    refine ccst 22 (0) ⟨u358J, _, rfl⟩ rfl (by decide) (fun z9 h9 => ?_)
    exact cret ⟨u358J, _, rfl⟩ (Or.inl rfl) (hR _ _ _ _ (lawJ_83 hI1 hH2 F2) (by decide) (by decide))
  · have hE : E ∈ [0, 1] := hE
    simp only [List.mem_cons, List.not_mem_nil, or_false] at hE
    rcases hE with rfl | rfl
    · refine ⟨0, 17, 4, 19, rfl, rfl, rfl, rfl, ?_⟩
      refine ccst 20 (2) ⟨u358J, _, rfl⟩ rfl (by decide) (fun z9 h9 => ?_)
      exact cret ⟨u358J, _, rfl⟩ (Or.inl rfl) (hR _ _ _ _ hI1 (by decide) (by decide))
    · refine ⟨1, 13, 4, 15, rfl, rfl, rfl, rfl, ?_⟩
      refine ccst 16 (1) ⟨u358J, _, rfl⟩ rfl (by decide) (fun z9 h9 => ?_)
      exact cret ⟨u358J, _, rfl⟩ (Or.inl rfl) (hR _ _ _ _ hI1 (by decide) (by decide))
theorem u359J : bUp 0 am_m359.1 = true := by decide +kernel
theorem h359J {d : Nat} {hp : amH} {R : cQ} {x1 x2 : Int32} (hI : lawJ hp) (hR : ∀ (z : Int32) hp1 mc ms, lawJ hp1 → mc ≤ 1 → ms ≤ 6 → R (.inl (some (.int z))) hp1 mc ms) : cK (d + 20) 359 [.ref 0, .int x1, .int x2, .ref 83] hp R := by
  refine cin (M := am_m359) rfl rfl rfl ?_
  refine cald 1 ⟨u359J, _, rfl⟩ rfl rfl ?_
  refine ccst 2 (0) ⟨u359J, _, rfl⟩ rfl (by decide) (fun z1 h1 => ?_)
  refine cald 3 ⟨u359J, _, rfl⟩ rfl rfl ?_
  refine cild 4 ⟨u359J, _, rfl⟩ rfl rfl ?_
  refine cild 5 ⟨u359J, _, rfl⟩ rfl rfl ?_
  refine ccall (kd := 0) (t := 1) [.ref 0, .int _, .int _] [.int _, .ref 83] hI.1.1 ⟨u359J, _, rfl⟩ (Or.inl ⟨_, rfl, rfl, by decide, by decide⟩) rfl rfl rfl ⟨rfl, rfl, rfl⟩ rfl (recv0 hI.1.1 _) rfl (qIJ (bL8_s be_74 (List.mem_of_getElem? (i := 122) rfl)) (Nat.ble_eq.mpr (by show _ ≤ d + 19; exact Nat.le_trans (by decide : _ ≤ 19) (Nat.le_add_left 19 d))) hI ⟨a0r, ai _, ai _, trivial⟩ rfl rfl rfl (fun z hp1 hI1 => Or.inl ⟨_, rfl, ?_⟩) (fun E hp1 hI1 hE => Or.inr ?_))
  · refine ci2l 9 ⟨u359J, _, rfl⟩ rfl (fun w => ?_)
    refine clast 10 hI1.1.1 ⟨u359J, _, rfl⟩ rfl h1 (fun hp2 hH2 F2 => ?_)
    refine cgoto ⟨u359J, _, rfl⟩ ?_
    refine ccst 18 (0) ⟨u359J, _, rfl⟩ rfl (by decide) (fun z9 h9 => ?_)
    exact cret ⟨u359J, _, rfl⟩ (Or.inl rfl) (hR _ _ _ _ (lawJ_83 hI1 hH2 F2) (by decide) (by decide))
  · have hE : E ∈ [1] := hE
    simp only [List.mem_cons, List.not_mem_nil, or_false] at hE
    rcases hE with rfl
    · refine ⟨1, 13, 4, 15, rfl, rfl, rfl, rfl, ?_⟩
      refine ccst 16 (1) ⟨u359J, _, rfl⟩ rfl (by decide) (fun z9 h9 => ?_)
      exact cret ⟨u359J, _, rfl⟩ (Or.inl rfl) (hR _ _ _ _ hI1 (by decide) (by decide))
theorem u360J : bUp 0 am_m360.1 = true := by decide +kernel
theorem h360J {d : Nat} {hp : amH} {R : cQ} {x1 : Int32} (hI : lawJ hp) (hR : ∀ (z : Int32) hp1 mc ms, lawJ hp1 → mc ≤ 1 → ms ≤ 6 → R (.inl (some (.int z))) hp1 mc ms) : cK (d + 20) 360 [.ref 0, .int x1, .ref 83] hp R := by
  refine cin (M := am_m360) rfl rfl rfl ?_
  refine cald 1 ⟨u360J, _, rfl⟩ rfl rfl ?_
  refine ccst 2 (0) ⟨u360J, _, rfl⟩ rfl (by decide) (fun z1 h1 => ?_)
  refine cald 3 ⟨u360J, _, rfl⟩ rfl rfl ?_
  refine cild 4 ⟨u360J, _, rfl⟩ rfl rfl ?_
  refine ccall (kd := 0) (t := 1) [.ref 0, .int _] [.int _, .ref 83] hI.1.1 ⟨u360J, _, rfl⟩ (Or.inl ⟨_, rfl, rfl, by decide, by decide⟩) rfl rfl rfl ⟨rfl, rfl, rfl⟩ rfl (recv0 hI.1.1 _) rfl (qIJ (bL8_s be_76 (List.mem_of_getElem? (i := 120) rfl)) (Nat.ble_eq.mpr (by show _ ≤ d + 19; exact Nat.le_trans (by decide : _ ≤ 19) (Nat.le_add_left 19 d))) hI ⟨a0r, ai _, trivial⟩ rfl rfl rfl (fun z hp1 hI1 => Or.inl ⟨_, rfl, ?_⟩) (fun E hp1 hI1 hE => Or.inr ?_))
  · refine ci2l 8 ⟨u360J, _, rfl⟩ rfl (fun w => ?_)
    refine clast 9 hI1.1.1 ⟨u360J, _, rfl⟩ rfl h1 (fun hp2 hH2 F2 => ?_)
    refine cgoto ⟨u360J, _, rfl⟩ ?_
    refine ccst 16 (0) ⟨u360J, _, rfl⟩ rfl (by decide) (fun z9 h9 => ?_)
    exact cret ⟨u360J, _, rfl⟩ (Or.inl rfl) (hR _ _ _ _ (lawJ_83 hI1 hH2 F2) (by decide) (by decide))
  · have hE : E ∈ [1] := hE
    simp only [List.mem_cons, List.not_mem_nil, or_false] at hE
    rcases hE with rfl
    · refine ⟨1, 12, 3, 13, rfl, rfl, rfl, rfl, ?_⟩
      refine ccst 14 (1) ⟨u360J, _, rfl⟩ rfl (by decide) (fun z9 h9 => ?_)
      exact cret ⟨u360J, _, rfl⟩ (Or.inl rfl) (hR _ _ _ _ hI1 (by decide) (by decide))
theorem u361J : bUp 0 am_m361.1 = true := by decide +kernel
theorem h361J {d : Nat} {hp : amH} {R : cQ} {x1 : Int32} (hI : lawJ hp) (hR : ∀ (z : Int32) hp1 mc ms, lawJ hp1 → mc ≤ 1 → ms ≤ 6 → R (.inl (some (.int z))) hp1 mc ms) : cK (d + 20) 361 [.ref 0, .int x1, .ref 83] hp R := by
  refine cin (M := am_m361) rfl rfl rfl ?_
  refine cald 1 ⟨u361J, _, rfl⟩ rfl rfl ?_
  refine ccst 2 (0) ⟨u361J, _, rfl⟩ rfl (by decide) (fun z1 h1 => ?_)
  refine cald 3 ⟨u361J, _, rfl⟩ rfl rfl ?_
  refine cild 4 ⟨u361J, _, rfl⟩ rfl rfl ?_
  refine ccall (kd := 0) (t := 1) [.ref 0, .int _] [.int _, .ref 83] hI.1.1 ⟨u361J, _, rfl⟩ (Or.inl ⟨_, rfl, rfl, by decide, by decide⟩) rfl rfl rfl ⟨rfl, rfl, rfl⟩ rfl (recv0 hI.1.1 _) rfl (qIJ (bL8_s be_78 (List.mem_of_getElem? (i := 118) rfl)) (Nat.ble_eq.mpr (by show _ ≤ d + 19; exact Nat.le_trans (by decide : _ ≤ 19) (Nat.le_add_left 19 d))) hI ⟨a0r, ai _, trivial⟩ rfl rfl rfl (fun z hp1 hI1 => Or.inl ⟨_, rfl, ?_⟩) (fun E hp1 hI1 hE => Or.inr ?_))
  · refine ci2l 8 ⟨u361J, _, rfl⟩ rfl (fun w => ?_)
    refine clast 9 hI1.1.1 ⟨u361J, _, rfl⟩ rfl h1 (fun hp2 hH2 F2 => ?_)
    refine cgoto ⟨u361J, _, rfl⟩ ?_
    refine ccst 16 (0) ⟨u361J, _, rfl⟩ rfl (by decide) (fun z9 h9 => ?_)
    exact cret ⟨u361J, _, rfl⟩ (Or.inl rfl) (hR _ _ _ _ (lawJ_83 hI1 hH2 F2) (by decide) (by decide))
  · have hE : E ∈ [1] := hE
    simp only [List.mem_cons, List.not_mem_nil, or_false] at hE
    rcases hE with rfl
    · refine ⟨1, 12, 3, 13, rfl, rfl, rfl, rfl, ?_⟩
      refine ccst 14 (1) ⟨u361J, _, rfl⟩ rfl (by decide) (fun z9 h9 => ?_)
      exact cret ⟨u361J, _, rfl⟩ (Or.inl rfl) (hR _ _ _ _ hI1 (by decide) (by decide))
theorem u363J : bUp 0 am_m363.1 = true := by decide +kernel
theorem h363J {d : Nat} {hp : amH} {R : cQ} {x1 : Int32} (hI : lawJ hp) (hR : ∀ (z : Int32) hp1 mc ms, lawJ hp1 → mc ≤ 1 → ms ≤ 6 → R (.inl (some (.int z))) hp1 mc ms) : cK (d + 20) 363 [.ref 0, .int x1, .ref 83] hp R := by
  refine cin (M := am_m363) rfl rfl rfl ?_
  refine cald 1 ⟨u363J, _, rfl⟩ rfl rfl ?_
  refine ccst 2 (0) ⟨u363J, _, rfl⟩ rfl (by decide) (fun z1 h1 => ?_)
  refine cald 3 ⟨u363J, _, rfl⟩ rfl rfl ?_
  refine cild 4 ⟨u363J, _, rfl⟩ rfl rfl ?_
  refine ccall (kd := 0) (t := 1) [.ref 0, .int _] [.int _, .ref 83] hI.1.1 ⟨u363J, _, rfl⟩ (Or.inl ⟨_, rfl, rfl, by decide, by decide⟩) rfl rfl rfl ⟨rfl, rfl, rfl⟩ rfl (recv0 hI.1.1 _) rfl (qIJ (bL8_s be_89 (List.mem_of_getElem? (i := 107) rfl)) (Nat.ble_eq.mpr (by show _ ≤ d + 19; exact Nat.le_trans (by decide : _ ≤ 19) (Nat.le_add_left 19 d))) hI ⟨a0r, ai _, trivial⟩ rfl rfl rfl (fun z hp1 hI1 => Or.inl ⟨_, rfl, ?_⟩) (fun E hp1 hI1 hE => Or.inr ?_))
  · refine ci2l 8 ⟨u363J, _, rfl⟩ rfl (fun w => ?_)
    refine clast 9 hI1.1.1 ⟨u363J, _, rfl⟩ rfl h1 (fun hp2 hH2 F2 => ?_)
    refine cgoto ⟨u363J, _, rfl⟩ ?_
    refine ccst 16 (0) ⟨u363J, _, rfl⟩ rfl (by decide) (fun z9 h9 => ?_)
    exact cret ⟨u363J, _, rfl⟩ (Or.inl rfl) (hR _ _ _ _ (lawJ_83 hI1 hH2 F2) (by decide) (by decide))
  · have hE : E ∈ [1] := hE
    simp only [List.mem_cons, List.not_mem_nil, or_false] at hE
    rcases hE with rfl
    · refine ⟨1, 12, 3, 13, rfl, rfl, rfl, rfl, ?_⟩
      refine ccst 14 (1) ⟨u363J, _, rfl⟩ rfl (by decide) (fun z9 h9 => ?_)
      exact cret ⟨u363J, _, rfl⟩ (Or.inl rfl) (hR _ _ _ _ hI1 (by decide) (by decide))
theorem u365J : bUp 0 am_m365.1 = true := by decide +kernel
theorem h365J {d : Nat} {hp : amH} {R : cQ} {x1 x2 : Int32} (hI : lawJ hp) (hR : ∀ (z : Int32) hp1 mc ms, lawJ hp1 → mc ≤ 1 → ms ≤ 6 → R (.inl (some (.int z))) hp1 mc ms) : cK (d + 20) 365 [.ref 0, .int x1, .int x2, .ref 83] hp R := by
  refine cin (M := am_m365) rfl rfl rfl ?_
  refine cald 1 ⟨u365J, _, rfl⟩ rfl rfl ?_
  refine ccst 2 (0) ⟨u365J, _, rfl⟩ rfl (by decide) (fun z1 h1 => ?_)
  refine cald 3 ⟨u365J, _, rfl⟩ rfl rfl ?_
  refine cild 4 ⟨u365J, _, rfl⟩ rfl rfl ?_
  refine cild 5 ⟨u365J, _, rfl⟩ rfl rfl ?_
  refine ccall (kd := 0) (t := 2) [.ref 0, .int _, .int _] [.int _, .ref 83] hI.1.1 ⟨u365J, _, rfl⟩ (Or.inl ⟨_, rfl, rfl, by decide, by decide⟩) rfl rfl rfl ⟨rfl, rfl, rfl⟩ rfl (recv0 hI.1.1 _) rfl (qIJ (bL8_s be_94 (List.mem_of_getElem? (i := 97) rfl)) (Nat.ble_eq.mpr (by show _ ≤ d + 19; exact Nat.le_trans (by decide : _ ≤ 19) (Nat.le_add_left 19 d))) hI ⟨a0r, ai _, ai _, trivial⟩ rfl rfl rfl (fun z hp1 hI1 => Or.inl ⟨_, rfl, ?_⟩) (fun E hp1 hI1 hE => Or.inr ?_))
  · refine ci2l 9 ⟨u365J, _, rfl⟩ rfl (fun w => ?_)
    refine clast 10 hI1.1.1 ⟨u365J, _, rfl⟩ rfl h1 (fun hp2 hH2 F2 => ?_)
    refine cgoto ⟨u365J, _, rfl⟩ ?_
    refine ccst 22 (0) ⟨u365J, _, rfl⟩ rfl (by decide) (fun z9 h9 => ?_)
    exact cret ⟨u365J, _, rfl⟩ (Or.inl rfl) (hR _ _ _ _ (lawJ_83 hI1 hH2 F2) (by decide) (by decide))
  · have hE : E ∈ [0, 1] := hE
    simp only [List.mem_cons, List.not_mem_nil, or_false] at hE
    rcases hE with rfl | rfl
    · refine ⟨0, 17, 4, 19, rfl, rfl, rfl, rfl, ?_⟩
      refine ccst 20 (2) ⟨u365J, _, rfl⟩ rfl (by decide) (fun z9 h9 => ?_)
      exact cret ⟨u365J, _, rfl⟩ (Or.inl rfl) (hR _ _ _ _ hI1 (by decide) (by decide))
    · refine ⟨1, 13, 4, 15, rfl, rfl, rfl, rfl, ?_⟩
      refine ccst 16 (1) ⟨u365J, _, rfl⟩ rfl (by decide) (fun z9 h9 => ?_)
      exact cret ⟨u365J, _, rfl⟩ (Or.inl rfl) (hR _ _ _ _ hI1 (by decide) (by decide))
theorem u366J : bUp 0 am_m366.1 = true := by decide +kernel
theorem h366J {d : Nat} {hp : amH} {R : cQ} {x1 x2 x3 : Int32} (hI : lawJ hp) (hR : ∀ (z : Int32) hp1 mc ms, lawJ hp1 → mc ≤ 1 → ms ≤ 6 → R (.inl (some (.int z))) hp1 mc ms) : cK (d + 20) 366 [.ref 0, .int x1, .int x2, .int x3, .ref 83] hp R := by
  refine cin (M := am_m366) rfl rfl rfl ?_
  refine cald2 2 ⟨u366J, _, rfl⟩ rfl rfl ?_
  refine ccst 3 (0) ⟨u366J, _, rfl⟩ rfl (by decide) (fun z2 h2 => ?_)
  refine cald 4 ⟨u366J, _, rfl⟩ rfl rfl ?_
  refine cild 5 ⟨u366J, _, rfl⟩ rfl rfl ?_
  refine cild 6 ⟨u366J, _, rfl⟩ rfl rfl ?_
  refine cild 7 ⟨u366J, _, rfl⟩ rfl rfl ?_
  refine ccall (kd := 0) (t := 3) [.ref 0, .int _, .int _, .int _] [.int _, .ref 83] hI.1.1 ⟨u366J, _, rfl⟩ (Or.inl ⟨_, rfl, rfl, by decide, by decide⟩) rfl rfl rfl ⟨rfl, rfl, rfl⟩ rfl (recv0 hI.1.1 _) rfl (qIJ (bL8_s be_97 (List.mem_of_getElem? (i := 94) rfl)) (Nat.ble_eq.mpr (by show _ ≤ d + 19; exact Nat.le_trans (by decide : _ ≤ 19) (Nat.le_add_left 19 d))) hI ⟨a0r, ai _, ai _, ai _, trivial⟩ rfl rfl rfl (fun z hp1 hI1 => Or.inl ⟨_, rfl, ?_⟩) (fun E hp1 hI1 hE => Or.inr ?_))
  · refine ci2l 11 ⟨u366J, _, rfl⟩ rfl (fun w => ?_)
    refine clast 12 hI1.1.1 ⟨u366J, _, rfl⟩ rfl h2 (fun hp2 hH2 F2 => ?_)
    refine cgoto ⟨u366J, _, rfl⟩ ?_
    refine ccst 28 (0) ⟨u366J, _, rfl⟩ rfl (by decide) (fun z9 h9 => ?_)
    exact cret ⟨u366J, _, rfl⟩ (Or.inl rfl) (hR _ _ _ _ (lawJ_83 hI1 hH2 F2) (by decide) (by decide))
  · have hE : E ∈ [0, 1, 3] := hE
    simp only [List.mem_cons, List.not_mem_nil, or_false] at hE
    rcases hE with rfl | rfl | rfl
    · refine ⟨0, 19, 5, 21, rfl, rfl, rfl, rfl, ?_⟩
      refine ccst 22 (2) ⟨u366J, _, rfl⟩ rfl (by decide) (fun z9 h9 => ?_)
      exact cret ⟨u366J, _, rfl⟩ (Or.inl rfl) (hR _ _ _ _ hI1 (by decide) (by decide))
    · refine ⟨1, 15, 5, 17, rfl, rfl, rfl, rfl, ?_⟩
      refine ccst 18 (1) ⟨u366J, _, rfl⟩ rfl (by decide) (fun z9 h9 => ?_)
      exact cret ⟨u366J, _, rfl⟩ (Or.inl rfl) (hR _ _ _ _ hI1 (by decide) (by decide))
    · refine ⟨3, 23, 5, 25, rfl, rfl, rfl, rfl, ?_⟩
      refine ccst 26 (3) ⟨u366J, _, rfl⟩ rfl (by decide) (fun z9 h9 => ?_)
      exact cret ⟨u366J, _, rfl⟩ (Or.inl rfl) (hR _ _ _ _ hI1 (by decide) (by decide))
/-! ===== the law's helpers (e) ===== -/
theorem u367J : bUp 0 am_m367.1 = true := by decide +kernel
theorem h367J {d : Nat} {hp : amH} {R : cQ} {x1 x2 x3 x4 : Int32} (hI : lawJ hp) (hR : ∀ (z : Int32) hp1 mc ms, lawJ hp1 → mc ≤ 1 → ms ≤ 6 → R (.inl (some (.int z))) hp1 mc ms) : cK (d + 20) 367 [.ref 0, .int x1, .int x2, .int x3, .int x4, .ref 83] hp R := by
  refine cin (M := am_m367) rfl rfl rfl ?_
  refine cald2 2 ⟨u367J, _, rfl⟩ rfl rfl ?_
  refine ccst 3 (0) ⟨u367J, _, rfl⟩ rfl (by decide) (fun z2 h2 => ?_)
  refine cald 4 ⟨u367J, _, rfl⟩ rfl rfl ?_
  refine cild 5 ⟨u367J, _, rfl⟩ rfl rfl ?_
  refine cild 6 ⟨u367J, _, rfl⟩ rfl rfl ?_
  refine cild 7 ⟨u367J, _, rfl⟩ rfl rfl ?_
  refine cild2 9 ⟨u367J, _, rfl⟩ rfl rfl ?_
  refine ccall (kd := 0) (t := 3) [.ref 0, .int _, .int _, .int _, .int _] [.int _, .ref 83] hI.1.1 ⟨u367J, _, rfl⟩ (Or.inl ⟨_, rfl, rfl, by decide, by decide⟩) rfl rfl rfl ⟨rfl, rfl, rfl⟩ rfl (recv0 hI.1.1 _) rfl (qIJ (bL8_s be_98 (List.mem_of_getElem? (i := 93) rfl)) (Nat.ble_eq.mpr (by show _ ≤ d + 19; exact Nat.le_trans (by decide : _ ≤ 19) (Nat.le_add_left 19 d))) hI ⟨a0r, ai _, ai _, ai _, ai _, trivial⟩ rfl rfl rfl (fun z hp1 hI1 => Or.inl ⟨_, rfl, ?_⟩) (fun E hp1 hI1 hE => Or.inr ?_))
  · refine ci2l 13 ⟨u367J, _, rfl⟩ rfl (fun w => ?_)
    refine clast 14 hI1.1.1 ⟨u367J, _, rfl⟩ rfl h2 (fun hp2 hH2 F2 => ?_)
    refine cgoto ⟨u367J, _, rfl⟩ ?_
    refine ccst 30 (0) ⟨u367J, _, rfl⟩ rfl (by decide) (fun z9 h9 => ?_)
    exact cret ⟨u367J, _, rfl⟩ (Or.inl rfl) (hR _ _ _ _ (lawJ_83 hI1 hH2 F2) (by decide) (by decide))
  · have hE : E ∈ [0, 1, 3] := hE
    simp only [List.mem_cons, List.not_mem_nil, or_false] at hE
    rcases hE with rfl | rfl | rfl
    · refine ⟨0, 21, 6, 23, rfl, rfl, rfl, rfl, ?_⟩
      refine ccst 24 (2) ⟨u367J, _, rfl⟩ rfl (by decide) (fun z9 h9 => ?_)
      exact cret ⟨u367J, _, rfl⟩ (Or.inl rfl) (hR _ _ _ _ hI1 (by decide) (by decide))
    · refine ⟨1, 17, 6, 19, rfl, rfl, rfl, rfl, ?_⟩
      refine ccst 20 (1) ⟨u367J, _, rfl⟩ rfl (by decide) (fun z9 h9 => ?_)
      exact cret ⟨u367J, _, rfl⟩ (Or.inl rfl) (hR _ _ _ _ hI1 (by decide) (by decide))
    · refine ⟨3, 25, 6, 27, rfl, rfl, rfl, rfl, ?_⟩
      refine ccst 28 (3) ⟨u367J, _, rfl⟩ rfl (by decide) (fun z9 h9 => ?_)
      exact cret ⟨u367J, _, rfl⟩ (Or.inl rfl) (hR _ _ _ _ hI1 (by decide) (by decide))
theorem u369J : bUp 0 am_m369.1 = true := by decide +kernel
theorem h369J {d : Nat} {hp : amH} {R : cQ} {x1 x2 x3 : Int32} (hI : lawJ hp) (hR : ∀ (z : Int32) hp1 mc ms, lawJ hp1 → mc ≤ 1 → ms ≤ 6 → R (.inl (some (.int z))) hp1 mc ms) : cK (d + 20) 369 [.ref 0, .int x1, .int x2, .int x3, .ref 83] hp R := by
  refine cin (M := am_m369) rfl rfl rfl ?_
  refine cald2 2 ⟨u369J, _, rfl⟩ rfl rfl ?_
  refine ccst 3 (0) ⟨u369J, _, rfl⟩ rfl (by decide) (fun z2 h2 => ?_)
  refine cald 4 ⟨u369J, _, rfl⟩ rfl rfl ?_
  refine cild 5 ⟨u369J, _, rfl⟩ rfl rfl ?_
  refine cild 6 ⟨u369J, _, rfl⟩ rfl rfl ?_
  refine cild 7 ⟨u369J, _, rfl⟩ rfl rfl ?_
  refine ccall (kd := 0) (t := 3) [.ref 0, .int _, .int _, .int _] [.int _, .ref 83] hI.1.1 ⟨u369J, _, rfl⟩ (Or.inl ⟨_, rfl, rfl, by decide, by decide⟩) rfl rfl rfl ⟨rfl, rfl, rfl⟩ rfl (recv0 hI.1.1 _) rfl (qIJ (bL8_s be_102 (List.mem_of_getElem? (i := 89) rfl)) (Nat.ble_eq.mpr (by show _ ≤ d + 19; exact Nat.le_trans (by decide : _ ≤ 19) (Nat.le_add_left 19 d))) hI ⟨a0r, ai _, ai _, ai _, trivial⟩ rfl rfl rfl (fun z hp1 hI1 => Or.inl ⟨_, rfl, ?_⟩) (fun E hp1 hI1 hE => Or.inr ?_))
  · refine ci2l 11 ⟨u369J, _, rfl⟩ rfl (fun w => ?_)
    refine clast 12 hI1.1.1 ⟨u369J, _, rfl⟩ rfl h2 (fun hp2 hH2 F2 => ?_)
    refine cgoto ⟨u369J, _, rfl⟩ ?_
    refine ccst 28 (0) ⟨u369J, _, rfl⟩ rfl (by decide) (fun z9 h9 => ?_)
    exact cret ⟨u369J, _, rfl⟩ (Or.inl rfl) (hR _ _ _ _ (lawJ_83 hI1 hH2 F2) (by decide) (by decide))
  · have hE : E ∈ [0, 1, 3] := hE
    simp only [List.mem_cons, List.not_mem_nil, or_false] at hE
    rcases hE with rfl | rfl | rfl
    · refine ⟨0, 19, 5, 21, rfl, rfl, rfl, rfl, ?_⟩
      refine ccst 22 (2) ⟨u369J, _, rfl⟩ rfl (by decide) (fun z9 h9 => ?_)
      exact cret ⟨u369J, _, rfl⟩ (Or.inl rfl) (hR _ _ _ _ hI1 (by decide) (by decide))
    · refine ⟨1, 15, 5, 17, rfl, rfl, rfl, rfl, ?_⟩
      refine ccst 18 (1) ⟨u369J, _, rfl⟩ rfl (by decide) (fun z9 h9 => ?_)
      exact cret ⟨u369J, _, rfl⟩ (Or.inl rfl) (hR _ _ _ _ hI1 (by decide) (by decide))
    · refine ⟨3, 23, 5, 25, rfl, rfl, rfl, rfl, ?_⟩
      refine ccst 26 (3) ⟨u369J, _, rfl⟩ rfl (by decide) (fun z9 h9 => ?_)
      exact cret ⟨u369J, _, rfl⟩ (Or.inl rfl) (hR _ _ _ _ hI1 (by decide) (by decide))
theorem u370J : bUp 0 am_m370.1 = true := by decide +kernel
theorem h370J {d : Nat} {hp : amH} {R : cQ} {x1 x2 : Int32} (hI : lawJ hp) (hR : ∀ (z : Int32) hp1 mc ms, lawJ hp1 → mc ≤ 1 → ms ≤ 6 → R (.inl (some (.int z))) hp1 mc ms) : cK (d + 20) 370 [.ref 0, .int x1, .int x2, .ref 83] hp R := by
  refine cin (M := am_m370) rfl rfl rfl ?_
  refine cald 1 ⟨u370J, _, rfl⟩ rfl rfl ?_
  refine ccst 2 (0) ⟨u370J, _, rfl⟩ rfl (by decide) (fun z1 h1 => ?_)
  refine cald 3 ⟨u370J, _, rfl⟩ rfl rfl ?_
  refine cild 4 ⟨u370J, _, rfl⟩ rfl rfl ?_
  refine cild 5 ⟨u370J, _, rfl⟩ rfl rfl ?_
  refine ccall (kd := 0) (t := 1) [.ref 0, .int _, .int _] [.int _, .ref 83] hI.1.1 ⟨u370J, _, rfl⟩ (Or.inl ⟨_, rfl, rfl, by decide, by decide⟩) rfl rfl rfl ⟨rfl, rfl, rfl⟩ rfl (recv0 hI.1.1 _) rfl (qTJ (t := 1) (bL8_s be_109 (List.mem_of_getElem? (i := 82) rfl)) (Nat.ble_eq.mpr (by show _ ≤ d + 19; exact Nat.le_trans (by decide : _ ≤ 19) (Nat.le_add_left 19 d))) hI ⟨a0r, ai _, ai _, trivial⟩ rfl rfl rfl (fun w hp1 hI1 hw => Or.inl ⟨_, rfl, ?_⟩) (fun E hp1 hI1 hE => Or.inr ?_))
  · obtain ⟨w, rfl⟩ := bT1 hw
    refine clast 9 hI1.1.1 ⟨u370J, _, rfl⟩ rfl h1 (fun hp2 hH2 F2 => ?_)
    refine cgoto ⟨u370J, _, rfl⟩ ?_
    refine ccst 17 (0) ⟨u370J, _, rfl⟩ rfl (by decide) (fun z9 h9 => ?_)
    exact cret ⟨u370J, _, rfl⟩ (Or.inl rfl) (hR _ _ _ _ (lawJ_83 hI1 hH2 F2) (by decide) (by decide))
  · have hE : E ∈ [3] := hE
    simp only [List.mem_cons, List.not_mem_nil, or_false] at hE
    rcases hE with rfl
    · refine ⟨3, 12, 4, 14, rfl, rfl, rfl, rfl, ?_⟩
      refine ccst 15 (1) ⟨u370J, _, rfl⟩ rfl (by decide) (fun z9 h9 => ?_)
      exact cret ⟨u370J, _, rfl⟩ (Or.inl rfl) (hR _ _ _ _ hI1 (by decide) (by decide))
theorem u371J : bUp 0 am_m371.1 = true := by decide +kernel
theorem h371J {d : Nat} {hp : amH} {R : cQ} {x1 x2 x3 : Int32} (hI : lawJ hp) (hR : ∀ (z : Int32) hp1 mc ms, lawJ hp1 → mc ≤ 1 → ms ≤ 6 → R (.inl (some (.int z))) hp1 mc ms) : cK (d + 20) 371 [.ref 0, .int x1, .int x2, .int x3, .ref 83] hp R := by
  refine cin (M := am_m371) rfl rfl rfl ?_
  refine cald2 2 ⟨u371J, _, rfl⟩ rfl rfl ?_
  refine ccst 3 (0) ⟨u371J, _, rfl⟩ rfl (by decide) (fun z2 h2 => ?_)
  refine cald 4 ⟨u371J, _, rfl⟩ rfl rfl ?_
  refine cild 5 ⟨u371J, _, rfl⟩ rfl rfl ?_
  refine cild 6 ⟨u371J, _, rfl⟩ rfl rfl ?_
  refine cild 7 ⟨u371J, _, rfl⟩ rfl rfl ?_
  refine ccall (kd := 0) (t := 3) [.ref 0, .int _, .int _, .int _] [.int _, .ref 83] hI.1.1 ⟨u371J, _, rfl⟩ (Or.inl ⟨_, rfl, rfl, by decide, by decide⟩) rfl rfl rfl ⟨rfl, rfl, rfl⟩ rfl (recv0 hI.1.1 _) rfl (qIJ (bL8_s be_115 (List.mem_of_getElem? (i := 76) rfl)) (Nat.ble_eq.mpr (by show _ ≤ d + 19; exact Nat.le_trans (by decide : _ ≤ 19) (Nat.le_add_left 19 d))) hI ⟨a0r, ai _, ai _, ai _, trivial⟩ rfl rfl rfl (fun z hp1 hI1 => Or.inl ⟨_, rfl, ?_⟩) (fun E hp1 hI1 hE => Or.inr ?_))
  · refine ci2l 11 ⟨u371J, _, rfl⟩ rfl (fun w => ?_)
    refine clast 12 hI1.1.1 ⟨u371J, _, rfl⟩ rfl h2 (fun hp2 hH2 F2 => ?_)
    refine cgoto ⟨u371J, _, rfl⟩ ?_
    refine ccst 28 (0) ⟨u371J, _, rfl⟩ rfl (by decide) (fun z9 h9 => ?_)
    exact cret ⟨u371J, _, rfl⟩ (Or.inl rfl) (hR _ _ _ _ (lawJ_83 hI1 hH2 F2) (by decide) (by decide))
  · have hE : E ∈ [0, 1, 2] := hE
    simp only [List.mem_cons, List.not_mem_nil, or_false] at hE
    rcases hE with rfl | rfl | rfl
    · refine ⟨0, 19, 5, 21, rfl, rfl, rfl, rfl, ?_⟩
      refine ccst 22 (2) ⟨u371J, _, rfl⟩ rfl (by decide) (fun z9 h9 => ?_)
      exact cret ⟨u371J, _, rfl⟩ (Or.inl rfl) (hR _ _ _ _ hI1 (by decide) (by decide))
    · refine ⟨1, 15, 5, 17, rfl, rfl, rfl, rfl, ?_⟩
      refine ccst 18 (1) ⟨u371J, _, rfl⟩ rfl (by decide) (fun z9 h9 => ?_)
      exact cret ⟨u371J, _, rfl⟩ (Or.inl rfl) (hR _ _ _ _ hI1 (by decide) (by decide))
    · refine ⟨2, 23, 5, 25, rfl, rfl, rfl, rfl, ?_⟩
      refine ccst 26 (3) ⟨u371J, _, rfl⟩ rfl (by decide) (fun z9 h9 => ?_)
      exact cret ⟨u371J, _, rfl⟩ (Or.inl rfl) (hR _ _ _ _ hI1 (by decide) (by decide))
theorem u372J : bUp 0 am_m372.1 = true := by decide +kernel
theorem h372J {d : Nat} {hp : amH} {R : cQ} {x1 x2 x3 : Int32} (hI : lawJ hp) (hR : ∀ (z : Int32) hp1 mc ms, lawJ hp1 → mc ≤ 1 → ms ≤ 6 → R (.inl (some (.int z))) hp1 mc ms) : cK (d + 20) 372 [.ref 0, .int x1, .int x2, .int x3, .ref 83] hp R := by
  refine cin (M := am_m372) rfl rfl rfl ?_
  refine cald2 2 ⟨u372J, _, rfl⟩ rfl rfl ?_
  refine ccst 3 (0) ⟨u372J, _, rfl⟩ rfl (by decide) (fun z2 h2 => ?_)
  refine cald 4 ⟨u372J, _, rfl⟩ rfl rfl ?_
  refine cild 5 ⟨u372J, _, rfl⟩ rfl rfl ?_
  refine cild 6 ⟨u372J, _, rfl⟩ rfl rfl ?_
  refine cild 7 ⟨u372J, _, rfl⟩ rfl rfl ?_
  refine ccall (kd := 0) (t := 3) [.ref 0, .int _, .int _, .int _] [.int _, .ref 83] hI.1.1 ⟨u372J, _, rfl⟩ (Or.inl ⟨_, rfl, rfl, by decide, by decide⟩) rfl rfl rfl ⟨rfl, rfl, rfl⟩ rfl (recv0 hI.1.1 _) rfl (qIJ (bL8_s be_119 (List.mem_of_getElem? (i := 72) rfl)) (Nat.ble_eq.mpr (by show _ ≤ d + 19; exact Nat.le_trans (by decide : _ ≤ 19) (Nat.le_add_left 19 d))) hI ⟨a0r, ai _, ai _, ai _, trivial⟩ rfl rfl rfl (fun z hp1 hI1 => Or.inl ⟨_, rfl, ?_⟩) (fun E hp1 hI1 hE => Or.inr ?_))
  · refine ci2l 11 ⟨u372J, _, rfl⟩ rfl (fun w => ?_)
    refine clast 12 hI1.1.1 ⟨u372J, _, rfl⟩ rfl h2 (fun hp2 hH2 F2 => ?_)
    refine cgoto ⟨u372J, _, rfl⟩ ?_
    refine ccst 28 (0) ⟨u372J, _, rfl⟩ rfl (by decide) (fun z9 h9 => ?_)
    exact cret ⟨u372J, _, rfl⟩ (Or.inl rfl) (hR _ _ _ _ (lawJ_83 hI1 hH2 F2) (by decide) (by decide))
  · have hE : E ∈ [0, 1, 2] := hE
    simp only [List.mem_cons, List.not_mem_nil, or_false] at hE
    rcases hE with rfl | rfl | rfl
    · refine ⟨0, 19, 5, 21, rfl, rfl, rfl, rfl, ?_⟩
      refine ccst 22 (2) ⟨u372J, _, rfl⟩ rfl (by decide) (fun z9 h9 => ?_)
      exact cret ⟨u372J, _, rfl⟩ (Or.inl rfl) (hR _ _ _ _ hI1 (by decide) (by decide))
    · refine ⟨1, 15, 5, 17, rfl, rfl, rfl, rfl, ?_⟩
      refine ccst 18 (1) ⟨u372J, _, rfl⟩ rfl (by decide) (fun z9 h9 => ?_)
      exact cret ⟨u372J, _, rfl⟩ (Or.inl rfl) (hR _ _ _ _ hI1 (by decide) (by decide))
    · refine ⟨2, 23, 5, 25, rfl, rfl, rfl, rfl, ?_⟩
      refine ccst 26 (3) ⟨u372J, _, rfl⟩ rfl (by decide) (fun z9 h9 => ?_)
      exact cret ⟨u372J, _, rfl⟩ (Or.inl rfl) (hR _ _ _ _ hI1 (by decide) (by decide))
theorem u373J : bUp 0 am_m373.1 = true := by decide +kernel
theorem h373J {d : Nat} {hp : amH} {R : cQ} {x1 x2 x3 : Int32} (hI : lawJ hp) (hR : ∀ (z : Int32) hp1 mc ms, lawJ hp1 → mc ≤ 1 → ms ≤ 6 → R (.inl (some (.int z))) hp1 mc ms) : cK (d + 20) 373 [.ref 0, .int x1, .int x2, .int x3, .ref 83] hp R := by
  refine cin (M := am_m373) rfl rfl rfl ?_
  refine cald2 2 ⟨u373J, _, rfl⟩ rfl rfl ?_
  refine ccst 3 (0) ⟨u373J, _, rfl⟩ rfl (by decide) (fun z2 h2 => ?_)
  refine cald 4 ⟨u373J, _, rfl⟩ rfl rfl ?_
  refine cild 5 ⟨u373J, _, rfl⟩ rfl rfl ?_
  refine cild 6 ⟨u373J, _, rfl⟩ rfl rfl ?_
  refine cild 7 ⟨u373J, _, rfl⟩ rfl rfl ?_
  refine ccall (kd := 0) (t := 3) [.ref 0, .int _, .int _, .int _] [.int _, .ref 83] hI.1.1 ⟨u373J, _, rfl⟩ (Or.inl ⟨_, rfl, rfl, by decide, by decide⟩) rfl rfl rfl ⟨rfl, rfl, rfl⟩ rfl (recv0 hI.1.1 _) rfl (qIJ (bL8_s be_122 (List.mem_of_getElem? (i := 69) rfl)) (Nat.ble_eq.mpr (by show _ ≤ d + 19; exact Nat.le_trans (by decide : _ ≤ 19) (Nat.le_add_left 19 d))) hI ⟨a0r, ai _, ai _, ai _, trivial⟩ rfl rfl rfl (fun z hp1 hI1 => Or.inl ⟨_, rfl, ?_⟩) (fun E hp1 hI1 hE => Or.inr ?_))
  · refine ci2l 11 ⟨u373J, _, rfl⟩ rfl (fun w => ?_)
    refine clast 12 hI1.1.1 ⟨u373J, _, rfl⟩ rfl h2 (fun hp2 hH2 F2 => ?_)
    refine cgoto ⟨u373J, _, rfl⟩ ?_
    refine ccst 28 (0) ⟨u373J, _, rfl⟩ rfl (by decide) (fun z9 h9 => ?_)
    exact cret ⟨u373J, _, rfl⟩ (Or.inl rfl) (hR _ _ _ _ (lawJ_83 hI1 hH2 F2) (by decide) (by decide))
  · have hE : E ∈ [0, 1, 2] := hE
    simp only [List.mem_cons, List.not_mem_nil, or_false] at hE
    rcases hE with rfl | rfl | rfl
    · refine ⟨0, 19, 5, 21, rfl, rfl, rfl, rfl, ?_⟩
      refine ccst 22 (2) ⟨u373J, _, rfl⟩ rfl (by decide) (fun z9 h9 => ?_)
      exact cret ⟨u373J, _, rfl⟩ (Or.inl rfl) (hR _ _ _ _ hI1 (by decide) (by decide))
    · refine ⟨1, 15, 5, 17, rfl, rfl, rfl, rfl, ?_⟩
      refine ccst 18 (1) ⟨u373J, _, rfl⟩ rfl (by decide) (fun z9 h9 => ?_)
      exact cret ⟨u373J, _, rfl⟩ (Or.inl rfl) (hR _ _ _ _ hI1 (by decide) (by decide))
    · refine ⟨2, 23, 5, 25, rfl, rfl, rfl, rfl, ?_⟩
      refine ccst 26 (3) ⟨u373J, _, rfl⟩ rfl (by decide) (fun z9 h9 => ?_)
      exact cret ⟨u373J, _, rfl⟩ (Or.inl rfl) (hR _ _ _ _ hI1 (by decide) (by decide))
theorem u374J : bUp 0 am_m374.1 = true := by decide +kernel
theorem h374J {d : Nat} {hp : amH} {R : cQ} {x1 x2 x3 : Int32} (hI : lawJ hp) (hR : ∀ (z : Int32) hp1 mc ms, lawJ hp1 → mc ≤ 1 → ms ≤ 6 → R (.inl (some (.int z))) hp1 mc ms) : cK (d + 20) 374 [.ref 0, .int x1, .int x2, .int x3, .ref 83] hp R := by
  refine cin (M := am_m374) rfl rfl rfl ?_
  refine cald2 2 ⟨u374J, _, rfl⟩ rfl rfl ?_
  refine ccst 3 (0) ⟨u374J, _, rfl⟩ rfl (by decide) (fun z2 h2 => ?_)
  refine cald 4 ⟨u374J, _, rfl⟩ rfl rfl ?_
  refine cild 5 ⟨u374J, _, rfl⟩ rfl rfl ?_
  refine cild 6 ⟨u374J, _, rfl⟩ rfl rfl ?_
  refine cild 7 ⟨u374J, _, rfl⟩ rfl rfl ?_
  refine ccall (kd := 0) (t := 3) [.ref 0, .int _, .int _, .int _] [.int _, .ref 83] hI.1.1 ⟨u374J, _, rfl⟩ (Or.inl ⟨_, rfl, rfl, by decide, by decide⟩) rfl rfl rfl ⟨rfl, rfl, rfl⟩ rfl (recv0 hI.1.1 _) rfl (qIJ (bL8_s be_123 (List.mem_of_getElem? (i := 68) rfl)) (Nat.ble_eq.mpr (by show _ ≤ d + 19; exact Nat.le_trans (by decide : _ ≤ 19) (Nat.le_add_left 19 d))) hI ⟨a0r, ai _, ai _, ai _, trivial⟩ rfl rfl rfl (fun z hp1 hI1 => Or.inl ⟨_, rfl, ?_⟩) (fun E hp1 hI1 hE => Or.inr ?_))
  · refine ci2l 11 ⟨u374J, _, rfl⟩ rfl (fun w => ?_)
    refine clast 12 hI1.1.1 ⟨u374J, _, rfl⟩ rfl h2 (fun hp2 hH2 F2 => ?_)
    refine cgoto ⟨u374J, _, rfl⟩ ?_
    refine ccst 28 (0) ⟨u374J, _, rfl⟩ rfl (by decide) (fun z9 h9 => ?_)
    exact cret ⟨u374J, _, rfl⟩ (Or.inl rfl) (hR _ _ _ _ (lawJ_83 hI1 hH2 F2) (by decide) (by decide))
  · have hE : E ∈ [0, 1, 2] := hE
    simp only [List.mem_cons, List.not_mem_nil, or_false] at hE
    rcases hE with rfl | rfl | rfl
    · refine ⟨0, 19, 5, 21, rfl, rfl, rfl, rfl, ?_⟩
      refine ccst 22 (2) ⟨u374J, _, rfl⟩ rfl (by decide) (fun z9 h9 => ?_)
      exact cret ⟨u374J, _, rfl⟩ (Or.inl rfl) (hR _ _ _ _ hI1 (by decide) (by decide))
    · refine ⟨1, 15, 5, 17, rfl, rfl, rfl, rfl, ?_⟩
      refine ccst 18 (1) ⟨u374J, _, rfl⟩ rfl (by decide) (fun z9 h9 => ?_)
      exact cret ⟨u374J, _, rfl⟩ (Or.inl rfl) (hR _ _ _ _ hI1 (by decide) (by decide))
    · refine ⟨2, 23, 5, 25, rfl, rfl, rfl, rfl, ?_⟩
      refine ccst 26 (3) ⟨u374J, _, rfl⟩ rfl (by decide) (fun z9 h9 => ?_)
      exact cret ⟨u374J, _, rfl⟩ (Or.inl rfl) (hR _ _ _ _ hI1 (by decide) (by decide))
theorem u375J : bUp 0 am_m375.1 = true := by decide +kernel
theorem h375J {d : Nat} {hp : amH} {R : cQ} {x1 : Int32} (hI : lawJ hp) (hR : ∀ (z : Int32) hp1 mc ms, lawJ hp1 → mc ≤ 1 → ms ≤ 6 → R (.inl (some (.int z))) hp1 mc ms) : cK (d + 20) 375 [.ref 0, .int x1, .ref 83] hp R := by
  refine cin (M := am_m375) rfl rfl rfl ?_
  refine cald 1 ⟨u375J, _, rfl⟩ rfl rfl ?_
  refine ccst 2 (0) ⟨u375J, _, rfl⟩ rfl (by decide) (fun z1 h1 => ?_)
  refine cald 3 ⟨u375J, _, rfl⟩ rfl rfl ?_
  refine cild 4 ⟨u375J, _, rfl⟩ rfl rfl ?_
  refine ccall (kd := 0) (t := 1) [.ref 0, .int _] [.int _, .ref 83] hI.1.1 ⟨u375J, _, rfl⟩ (Or.inl ⟨_, rfl, rfl, by decide, by decide⟩) rfl rfl rfl ⟨rfl, rfl, rfl⟩ rfl (recv0 hI.1.1 _) rfl (qIJ (bL8_s be_125 (List.mem_of_getElem? (i := 66) rfl)) (Nat.ble_eq.mpr (by show _ ≤ d + 19; exact Nat.le_trans (by decide : _ ≤ 19) (Nat.le_add_left 19 d))) hI ⟨a0r, ai _, trivial⟩ rfl rfl rfl (fun z hp1 hI1 => Or.inl ⟨_, rfl, ?_⟩) (fun E hp1 hI1 hE => Or.inr ?_))
  · refine ci2l 8 ⟨u375J, _, rfl⟩ rfl (fun w => ?_)
    refine clast 9 hI1.1.1 ⟨u375J, _, rfl⟩ rfl h1 (fun hp2 hH2 F2 => ?_)
    refine cgoto ⟨u375J, _, rfl⟩ ?_
    refine ccst 16 (0) ⟨u375J, _, rfl⟩ rfl (by decide) (fun z9 h9 => ?_)
    exact cret ⟨u375J, _, rfl⟩ (Or.inl rfl) (hR _ _ _ _ (lawJ_83 hI1 hH2 F2) (by decide) (by decide))
  · have hE : E ∈ [2] := hE
    simp only [List.mem_cons, List.not_mem_nil, or_false] at hE
    rcases hE with rfl
    · refine ⟨2, 12, 3, 13, rfl, rfl, rfl, rfl, ?_⟩
      refine ccst 14 (1) ⟨u375J, _, rfl⟩ rfl (by decide) (fun z9 h9 => ?_)
      exact cret ⟨u375J, _, rfl⟩ (Or.inl rfl) (hR _ _ _ _ hI1 (by decide) (by decide))
theorem u376J : bUp 0 am_m376.1 = true := by decide +kernel
theorem h376J {d : Nat} {hp : amH} {R : cQ} (hI : lawJ hp) (hR : ∀ (z : Int32) hp1 mc ms, lawJ hp1 → mc ≤ 1 → ms ≤ 6 → R (.inl (some (.int z))) hp1 mc ms) : cK (d + 20) 376 [.ref 0, .ref 83] hp R := by
  refine cin (M := am_m376) rfl rfl rfl ?_
  refine cald 1 ⟨u376J, _, rfl⟩ rfl rfl ?_
  refine ccst 2 (0) ⟨u376J, _, rfl⟩ rfl (by decide) (fun z1 h1 => ?_)
  refine cald 3 ⟨u376J, _, rfl⟩ rfl rfl ?_
  refine ccall (kd := 0) (t := 1) [.ref 0] [.int _, .ref 83] hI.1.1 ⟨u376J, _, rfl⟩ (Or.inl ⟨_, rfl, rfl, by decide, by decide⟩) rfl rfl rfl ⟨rfl, rfl, rfl⟩ rfl (recv0 hI.1.1 _) rfl (qIJ (bL8_s be_128 (List.mem_of_getElem? (i := 63) rfl)) (Nat.ble_eq.mpr (by show _ ≤ d + 19; exact Nat.le_trans (by decide : _ ≤ 19) (Nat.le_add_left 19 d))) hI ⟨a0r, trivial⟩ rfl rfl rfl (fun z hp1 hI1 => Or.inl ⟨_, rfl, ?_⟩) (fun E hp1 hI1 hE => Or.inr ?_))
  · refine ci2l 7 ⟨u376J, _, rfl⟩ rfl (fun w => ?_)
    refine clast 8 hI1.1.1 ⟨u376J, _, rfl⟩ rfl h1 (fun hp2 hH2 F2 => ?_)
    refine cgoto ⟨u376J, _, rfl⟩ ?_
    refine ccst 15 (0) ⟨u376J, _, rfl⟩ rfl (by decide) (fun z9 h9 => ?_)
    exact cret ⟨u376J, _, rfl⟩ (Or.inl rfl) (hR _ _ _ _ (lawJ_83 hI1 hH2 F2) (by decide) (by decide))
  · have hE : E ∈ [2] := hE
    simp only [List.mem_cons, List.not_mem_nil, or_false] at hE
    rcases hE with rfl
    · refine ⟨2, 11, 2, 12, rfl, rfl, rfl, rfl, ?_⟩
      refine ccst 13 (1) ⟨u376J, _, rfl⟩ rfl (by decide) (fun z9 h9 => ?_)
      exact cret ⟨u376J, _, rfl⟩ (Or.inl rfl) (hR _ _ _ _ hI1 (by decide) (by decide))
theorem u377J : bUp 0 am_m377.1 = true := by decide +kernel
theorem h377J {d : Nat} {hp : amH} {R : cQ} {x1 : Int32} (hI : lawJ hp) (hR : ∀ (z : Int32) hp1 mc ms, lawJ hp1 → mc ≤ 1 → ms ≤ 6 → R (.inl (some (.int z))) hp1 mc ms) : cK (d + 20) 377 [.ref 0, .int x1, .ref 83] hp R := by
  refine cin (M := am_m377) rfl rfl rfl ?_
  refine cald 1 ⟨u377J, _, rfl⟩ rfl rfl ?_
  refine ccst 2 (0) ⟨u377J, _, rfl⟩ rfl (by decide) (fun z1 h1 => ?_)
  refine cald 3 ⟨u377J, _, rfl⟩ rfl rfl ?_
  refine cild 4 ⟨u377J, _, rfl⟩ rfl rfl ?_
  refine ccall (kd := 0) (t := 1) [.ref 0, .int _] [.int _, .ref 83] hI.1.1 ⟨u377J, _, rfl⟩ (Or.inl ⟨_, rfl, rfl, by decide, by decide⟩) rfl rfl rfl ⟨rfl, rfl, rfl⟩ rfl (recv0 hI.1.1 _) rfl (qIJ (bL8_s be_140 (List.mem_of_getElem? (i := 34) rfl)) (Nat.ble_eq.mpr (by show _ ≤ d + 19; exact Nat.le_trans (by decide : _ ≤ 19) (Nat.le_add_left 19 d))) hI ⟨a0r, ai _, trivial⟩ rfl rfl rfl (fun z hp1 hI1 => Or.inl ⟨_, rfl, ?_⟩) (fun E hp1 hI1 hE => Or.inr ?_))
  · refine ci2l 8 ⟨u377J, _, rfl⟩ rfl (fun w => ?_)
    refine clast 9 hI1.1.1 ⟨u377J, _, rfl⟩ rfl h1 (fun hp2 hH2 F2 => ?_)
    refine cgoto ⟨u377J, _, rfl⟩ ?_
    refine ccst 16 (0) ⟨u377J, _, rfl⟩ rfl (by decide) (fun z9 h9 => ?_)
    exact cret ⟨u377J, _, rfl⟩ (Or.inl rfl) (hR _ _ _ _ (lawJ_83 hI1 hH2 F2) (by decide) (by decide))
  · have hE : E ∈ [0] := hE
    simp only [List.mem_cons, List.not_mem_nil, or_false] at hE
    rcases hE with rfl
    · refine ⟨0, 12, 3, 13, rfl, rfl, rfl, rfl, ?_⟩
      refine ccst 14 (1) ⟨u377J, _, rfl⟩ rfl (by decide) (fun z9 h9 => ?_)
      exact cret ⟨u377J, _, rfl⟩ (Or.inl rfl) (hR _ _ _ _ hI1 (by decide) (by decide))
theorem u378J : bUp 0 am_m378.1 = true := by decide +kernel
theorem h378J {d : Nat} {hp : amH} {R : cQ} {x1 : Int32} (hI : lawJ hp) (hR : ∀ (z : Int32) hp1 mc ms, lawJ hp1 → mc ≤ 1 → ms ≤ 6 → R (.inl (some (.int z))) hp1 mc ms) : cK (d + 20) 378 [.ref 0, .int x1, .ref 83] hp R := by
  refine cin (M := am_m378) rfl rfl rfl ?_
  refine cald 1 ⟨u378J, _, rfl⟩ rfl rfl ?_
  refine ccst 2 (0) ⟨u378J, _, rfl⟩ rfl (by decide) (fun z1 h1 => ?_)
  refine cald 3 ⟨u378J, _, rfl⟩ rfl rfl ?_
  refine cild 4 ⟨u378J, _, rfl⟩ rfl rfl ?_
  refine ccall (kd := 0) (t := 1) [.ref 0, .int _] [.int _, .ref 83] hI.1.1 ⟨u378J, _, rfl⟩ (Or.inl ⟨_, rfl, rfl, by decide, by decide⟩) rfl rfl rfl ⟨rfl, rfl, rfl⟩ rfl (recv0 hI.1.1 _) rfl (qIJ (bL8_s be_144 (List.mem_of_getElem? (i := 30) rfl)) (Nat.ble_eq.mpr (by show _ ≤ d + 19; exact Nat.le_trans (by decide : _ ≤ 19) (Nat.le_add_left 19 d))) hI ⟨a0r, ai _, trivial⟩ rfl rfl rfl (fun z hp1 hI1 => Or.inl ⟨_, rfl, ?_⟩) (fun E hp1 hI1 hE => Or.inr ?_))
  · refine ci2l 8 ⟨u378J, _, rfl⟩ rfl (fun w => ?_)
    refine clast 9 hI1.1.1 ⟨u378J, _, rfl⟩ rfl h1 (fun hp2 hH2 F2 => ?_)
    refine cgoto ⟨u378J, _, rfl⟩ ?_
    refine ccst 16 (0) ⟨u378J, _, rfl⟩ rfl (by decide) (fun z9 h9 => ?_)
    exact cret ⟨u378J, _, rfl⟩ (Or.inl rfl) (hR _ _ _ _ (lawJ_83 hI1 hH2 F2) (by decide) (by decide))
  · have hE : E ∈ [1] := hE
    simp only [List.mem_cons, List.not_mem_nil, or_false] at hE
    rcases hE with rfl
    · refine ⟨1, 12, 3, 13, rfl, rfl, rfl, rfl, ?_⟩
      refine ccst 14 (1) ⟨u378J, _, rfl⟩ rfl (by decide) (fun z9 h9 => ?_)
      exact cret ⟨u378J, _, rfl⟩ (Or.inl rfl) (hR _ _ _ _ hI1 (by decide) (by decide))
theorem u381J : bUp 0 am_m381.1 = true := by decide +kernel
theorem h381J {d : Nat} {hp : amH} {R : cQ} {x1 x2 x3 : Int32} (hI : lawJ hp) (hR : ∀ (z : Int32) hp1 mc ms, lawJ hp1 → mc ≤ 1 → ms ≤ 6 → R (.inl (some (.int z))) hp1 mc ms) : cK (d + 20) 381 [.ref 0, .int x1, .int x2, .int x3, .ref 83] hp R := by
  refine cin (M := am_m381) rfl rfl rfl ?_
  refine cald2 2 ⟨u381J, _, rfl⟩ rfl rfl ?_
  refine ccst 3 (0) ⟨u381J, _, rfl⟩ rfl (by decide) (fun z2 h2 => ?_)
  refine cald 4 ⟨u381J, _, rfl⟩ rfl rfl ?_
  refine cild 5 ⟨u381J, _, rfl⟩ rfl rfl ?_
  refine cild 6 ⟨u381J, _, rfl⟩ rfl rfl ?_
  refine cild 7 ⟨u381J, _, rfl⟩ rfl rfl ?_
  refine ccall (kd := 0) (t := 2) [.ref 0, .int _, .int _, .int _] [.int _, .ref 83] hI.1.1 ⟨u381J, _, rfl⟩ (Or.inl ⟨_, rfl, rfl, by decide, by decide⟩) rfl rfl rfl ⟨rfl, rfl, rfl⟩ rfl (recv0 hI.1.1 _) rfl (qIJ (bL8_s be_160 (List.mem_of_getElem? (i := 14) rfl)) (Nat.ble_eq.mpr (by show _ ≤ d + 19; exact Nat.le_trans (by decide : _ ≤ 19) (Nat.le_add_left 19 d))) hI ⟨a0r, ai _, ai _, ai _, trivial⟩ rfl rfl rfl (fun z hp1 hI1 => Or.inl ⟨_, rfl, ?_⟩) (fun E hp1 hI1 hE => Or.inr ?_))
  · refine ci2l 11 ⟨u381J, _, rfl⟩ rfl (fun w => ?_)
    refine clast 12 hI1.1.1 ⟨u381J, _, rfl⟩ rfl h2 (fun hp2 hH2 F2 => ?_)
    refine cgoto ⟨u381J, _, rfl⟩ ?_
    refine ccst 24 (0) ⟨u381J, _, rfl⟩ rfl (by decide) (fun z9 h9 => ?_)
    exact cret ⟨u381J, _, rfl⟩ (Or.inl rfl) (hR _ _ _ _ (lawJ_83 hI1 hH2 F2) (by decide) (by decide))
  · have hE : E ∈ [0, 1] := hE
    simp only [List.mem_cons, List.not_mem_nil, or_false] at hE
    rcases hE with rfl | rfl
    · refine ⟨0, 19, 5, 21, rfl, rfl, rfl, rfl, ?_⟩
      refine ccst 22 (2) ⟨u381J, _, rfl⟩ rfl (by decide) (fun z9 h9 => ?_)
      exact cret ⟨u381J, _, rfl⟩ (Or.inl rfl) (hR _ _ _ _ hI1 (by decide) (by decide))
    · refine ⟨1, 15, 5, 17, rfl, rfl, rfl, rfl, ?_⟩
      refine ccst 18 (1) ⟨u381J, _, rfl⟩ rfl (by decide) (fun z9 h9 => ?_)
      exact cret ⟨u381J, _, rfl⟩ (Or.inl rfl) (hR _ _ _ _ hI1 (by decide) (by decide))
theorem u383J : bUp 0 am_m383.1 = true := by decide +kernel
theorem h383J {d : Nat} {hp : amH} {R : cQ} {x1 : Int32} (hI : lawJ hp) (hR : ∀ (z : Int32) hp1 mc ms, lawJ hp1 → mc ≤ 1 → ms ≤ 6 → R (.inl (some (.int z))) hp1 mc ms) : cK (d + 20) 383 [.ref 0, .int x1, .ref 83] hp R := by
  refine cin (M := am_m383) rfl rfl rfl ?_
  refine cald 1 ⟨u383J, _, rfl⟩ rfl rfl ?_
  refine ccst 2 (0) ⟨u383J, _, rfl⟩ rfl (by decide) (fun z1 h1 => ?_)
  refine cald 3 ⟨u383J, _, rfl⟩ rfl rfl ?_
  refine cild 4 ⟨u383J, _, rfl⟩ rfl rfl ?_
  refine ccall (kd := 0) (t := 1) [.ref 0, .int _] [.int _, .ref 83] hI.1.1 ⟨u383J, _, rfl⟩ (Or.inl ⟨_, rfl, rfl, by decide, by decide⟩) rfl rfl rfl ⟨rfl, rfl, rfl⟩ rfl (recv0 hI.1.1 _) rfl (qIJ (bL8_s be_164 (List.mem_of_getElem? (i := 10) rfl)) (Nat.ble_eq.mpr (by show _ ≤ d + 19; exact Nat.le_trans (by decide : _ ≤ 19) (Nat.le_add_left 19 d))) hI ⟨a0r, ai _, trivial⟩ rfl rfl rfl (fun z hp1 hI1 => Or.inl ⟨_, rfl, ?_⟩) (fun E hp1 hI1 hE => Or.inr ?_))
  · refine ci2l 8 ⟨u383J, _, rfl⟩ rfl (fun w => ?_)
    refine clast 9 hI1.1.1 ⟨u383J, _, rfl⟩ rfl h1 (fun hp2 hH2 F2 => ?_)
    refine cgoto ⟨u383J, _, rfl⟩ ?_
    refine ccst 16 (0) ⟨u383J, _, rfl⟩ rfl (by decide) (fun z9 h9 => ?_)
    exact cret ⟨u383J, _, rfl⟩ (Or.inl rfl) (hR _ _ _ _ (lawJ_83 hI1 hH2 F2) (by decide) (by decide))
  · have hE : E ∈ [1] := hE
    simp only [List.mem_cons, List.not_mem_nil, or_false] at hE
    rcases hE with rfl
    · refine ⟨1, 12, 3, 13, rfl, rfl, rfl, rfl, ?_⟩
      refine ccst 14 (1) ⟨u383J, _, rfl⟩ rfl (by decide) (fun z9 h9 => ?_)
      exact cret ⟨u383J, _, rfl⟩ (Or.inl rfl) (hR _ _ _ _ hI1 (by decide) (by decide))
end
/-! ##### 19.m.107.42i ##### -/
section
/-! ===== a load on both sides: one state ===== -/
theorem cB_0 {hp : amH} (h1 : rN hp 1 0 = 0) (h2 : rN hp 66 21 = 0) : cB hp = rB hp := bt_to (by omega) (fun k hk => by omega)
/-- what both loads bring -/
theorem law_ldJ {hp hp1 hp2 : amH} {q : sR} {n : Nat} {h : Nat → sR} {sv : Option sR} {z1 z2 : Int32} {y : tY} (g1 : bHk 84 bTT hp1 ∧ (∀ c k, 66 ≤ c → bFld hp1 c k = bFld hp c k) ∧ rN hp1 1 0 = 0 ∧ rC3 y z1.toInt q n h sv hp1) (g2 : bHk 84 bTT hp2 ∧ P0 hp2 ∧ bFr wLd hp1 hp2 ∧ rN hp2 66 21 = 0 ∧ rL3 y z2.toInt q n h sv hp2) : lawJ hp2 ∧ z1.toInt = z2.toInt := by
  obtain ⟨a1, a2, a3, a4⟩ := g1
  obtain ⟨b1, b2, b3, b4, b5⟩ := g2
  have d : ∀ p ∈ wLd, 66 ≤ p.1 := by decide
  have fr : ∀ c k, c < 66 → bFld hp2 c k = bFld hp1 c k := fun c k hc => b3 c k (bIn_out (fun p hp z => by have := d p hp; omega))
  have e : ∀ c k, c < 66 → rN hp2 c k = rN hp1 c k := fun c k hc => rN_eq (fr c k hc)
  have e0 : rN hp2 1 0 = 0 := (e 1 0 (by omega)).trans a3
  have e1 := e 1 1 (by omega)
  have e2 := e 1 2 (by omega)
  unfold rC3 at a4
  unfold rL3 at b5
  cases t : tRd y with
  | inl x =>
    rw [t] at a4 b5
    obtain ⟨c1, c2, c3, c4⟩ := a4
    obtain ⟨d1, d2, d3, d4⟩ := b5
    exact ⟨⟨⟨b1, b2, by omega, cB_0 e0 b4, by omega, by omega⟩, ⟨_, _, _, _, clS_8 c4 (fun c k hc => fr c k (by omega)), d4⟩⟩, by omega⟩
  | inr p =>
    rw [t] at a4 b5
    obtain ⟨c1, c2, c3, c4⟩ := a4
    obtain ⟨d1, d2, d3, d4⟩ := b5
    exact ⟨⟨⟨b1, b2, by omega, cB_0 e0 b4, by omega, by omega⟩, ⟨_, _, _, _, clS_8 c4 (fun c k hc => fr c k (by omega)), d4⟩⟩, by omega⟩
end
/-! ##### 19.m.108.42j ##### -/
section
/-! ===== the reference's cells kept ===== -/
theorem rf_66 {hp hp1 : amH} {q : sR} {n : Nat} {h : Nat → sR} {sv : Option sR} (F : ∀ c k, 66 ≤ c → bFld hp1 c k = bFld hp c k) (hS : rfS hp q n h sv) : rfS hp1 q n h sv := by
  have e : ∀ c i, 66 ≤ c → rN hp1 c i = rN hp c i := fun c i hc => rN_eq (F c i hc)
  refine ⟨?_, hyR_fr hS.2 (e 66 5 (by omega)) (e 66 6 (by omega)) (fun i => e 70 i (by omega)) (fun i => e 71 i (by omega))⟩
  rw [show rN hp1 67 = rN hp 67 from funext (fun i => e 67 i (by omega))]
  exact hS.1
theorem P0_66 {hp hp1 : amH} {q : sR} {n : Nat} {h : Nat → sR} {sv : Option sR} (F : ∀ c k, 66 ≤ c → bFld hp1 c k = bFld hp c k) (hS : rfS hp q n h sv) (hP : P0 hp) : P0 hp1 := rfS_P (rf_66 F hS) (by
  rw [show rN hp1 69 = rN hp 69 from funext (fun i => rN_eq (F 69 i (by omega)))]
  exact hP.2.2.2)
theorem rB_66 {hp hp1 : amH} (F : ∀ c k, 66 ≤ c → bFld hp1 c k = bFld hp c k) : rB hp1 = rB hp := by
  funext k
  unfold rB
  rw [show rN hp1 66 21 = rN hp 66 21 from rN_eq (F 66 21 (by omega)), show rN hp1 80 k = rN hp 80 k from rN_eq (F 80 k (by omega))]
end
