/-! ===== the class loads a system: what it knows then of the text ===== -/
theorem u115 : bUp 0 am_m115.1 = true := by decide +kernel
theorem u185 : bUp 0 am_m185.1 = true := by decide +kernel
theorem xsV {d k : Nat} {s : bSp} {av : List Value} {hp : amH} {R : xQ} {fs : List bFa} (hs : bSem amGG P0 84 bTT k s) (hd : Nat.ble s.2.2.1 d = true) (hH : bHk 84 bTT hp) (hP : P0 hp) (ha : bArgs 84 s.1 av) (hf : s.2.1 = []) (hc : s.2.2.2.2.2 = [(none, fs)]) (ht : s.2.2.2.2.1 = [])
    (hR : ∀ hp1, bHk 84 bTT hp1 → P0 hp1 → bFr s.2.2.2.1 hp hp1 → bFacts hp1 fs → R (.inl none) hp1) : xK d k av hp R := by
  refine xsem hs (Nat.le_of_ble_eq_true hd) hH hP ha (by rw [hf]; exact noF hp) (fun y hp1 h1 h2 h3 h4 => ?_)
  match y, h4 with
  | .inl v, h4 =>
    obtain ⟨e, g1, g2, g3⟩ := h4
    rw [hc] at g1
    have g1 : e = (none, fs) := by simpa using g1
    subst g1
    match v, g2 with
    | none, _ => exact hR hp1 h1 h2 h3 g3
  | .inr E, h4 =>
    have h4 : E ∈ s.2.2.2.2.1 := h4
    rw [ht] at h4
    cases h4
def wSe : List (Nat × Nat) := [(3, 1), (5, 999), (7, 999), (49, 0), (50, 999), (51, 999)]
theorem k_settle {d : Nat} {hp : amH} {R : xQ} (hH : bHk 84 bTT hp) (hP : P0 hp) (hR : ∀ hp1, bHk 84 bTT hp1 → P0 hp1 → bFr wSe hp hp1 → R (.inl none) hp1) : xK (d + 5) 185 [.ref 0] hp R := by
  refine xin (M := am_m185) rfl rfl rfl ?_
  refine xald 1 ⟨u185, _, rfl⟩ rfl rfl ?_
  refine xgetD 4 (3) hH ⟨u185, _, rfl⟩ rfl (by decide) (by decide) rfl rfl (by decide) ?_
  refine xcallC 7 (o := 3) [] [] hH ⟨u185, _, rfl⟩ rfl rfl (by decide) rfl (by decide) rfl ⟨rfl, rfl, rfl, rfl⟩ rfl (xsV (bL8_s be_22 (List.mem_of_getElem? (i := 174) rfl)) (Nat.ble_eq.mpr (by show _ ≤ d + 4; exact Nat.le_trans (by decide : _ ≤ 4) (Nat.le_add_left 4 d))) hH hP ⟨⟨_, rfl, by decide, by simp⟩, trivial⟩ rfl rfl rfl (fun hp4 hH4 hP4 F4 _ => ⟨_, rfl, ?_⟩))
  refine xald 8 ⟨u185, _, rfl⟩ rfl rfl ?_
  refine xgetD 11 (49) hH4 ⟨u185, _, rfl⟩ rfl (by decide) (by decide) rfl rfl (by decide) ?_
  refine xald 12 ⟨u185, _, rfl⟩ rfl rfl ?_
  refine xgetD 15 (3) hH4 ⟨u185, _, rfl⟩ rfl (by decide) (by decide) rfl rfl (by decide) ?_
  refine xcallC 18 (o := 49) [.ref 3] [] hH4 ⟨u185, _, rfl⟩ rfl rfl (by decide) rfl (by decide) rfl ⟨rfl, rfl, rfl, rfl⟩ rfl (xsV (bL8_s be_26 (List.mem_of_getElem? (i := 170) rfl)) (Nat.ble_eq.mpr (by show _ ≤ d + 4; exact Nat.le_trans (by decide : _ ≤ 4) (Nat.le_add_left 4 d))) hH4 hP4 ⟨⟨_, rfl, by decide, by simp⟩, ⟨_, rfl, by decide, by simp⟩, trivial⟩ rfl rfl rfl (fun hp15 hH15 hP15 F15 _ => ⟨_, rfl, ?_⟩))
  exact xretV ⟨u185, _, rfl⟩ rfl (hR _ hH15 hP15 ((bFr_sub F4 (by decide)).trans (bFr_sub F15 (by decide))))
def wCl : List (Nat × Nat) := [(0, 11), (1, 999), (3, 0), (3, 1), (4, 999), (5, 999), (6, 999), (7, 999), (8, 999), (9, 999), (11, 999), (13, 0), (13, 1), (13, 2), (14, 0), (14, 3), (49, 0), (50, 999), (51, 999)]
def rCd (y : tY) (hp1 : amH) : Prop := match tRd y with
  | .inl e => rN hp1 1 1 = e.1 ∧ rN hp1 1 2 = (e.2 : Int)
  | .inr _ => rN hp1 1 1 = 0 ∧ rN hp1 1 2 = -1
theorem wCl_in {c k : Nat} (h : c = 1 ∨ c = 8 ∨ c = 9 ∨ c = 11) : bIn wCl c k = true := by
  rcases h with rfl | rfl | rfl | rfl
  all_goals exact bIn_all (by decide) k
theorem pFr_W {hp hp1 : amH} (F : pFr hp hp1) : bFr wCl hp hp1 := fun c k e => F c k (by
  rintro (⟨rfl, -, -⟩ | rfl | rfl | rfl) <;> rw [wCl_in (by decide)] at e <;> cases e)
theorem P0_p {hp hp1 : amH} (F : pFr hp hp1) (hP : P0 hp) : P0 hp1 := P0_W (W := wCl) (by decide) (pFr_W F) hP
theorem k_cld {d : Nat} {hp : amH} {R : xQ} {y : tY} (hH : bHk 84 bTT hp) (hP : P0 hp) (Y : cB hp = y)
    (hR : ∀ (z : Int32) hp1, bHk 84 bTT hp1 → P0 hp1 → bFr wCl hp hp1 → rN hp1 1 0 = 0 → rCd y hp1 → R (.inl (some (.int z))) hp1) : xK (d + 7) 115 [.ref 0] hp R := by
  refine xin (M := am_m115) rfl rfl rfl ?_
  refine xald 1 ⟨u115, _, rfl⟩ rfl rfl ?_
  refine xgetD 4 (1) hH ⟨u115, _, rfl⟩ rfl (by decide) (by decide) rfl rfl (by decide) ?_
  refine xald 5 ⟨u115, _, rfl⟩ rfl rfl ?_
  refine xgetD 8 (8) hH ⟨u115, _, rfl⟩ rfl (by decide) (by decide) rfl rfl (by decide) ?_
  refine xcallC 11 (o := 1) [.ref 8] [] hH ⟨u115, _, rfl⟩ rfl rfl (by decide) rfl (by decide) rfl ⟨rfl, rfl, rfl, rfl⟩ rfl (k_read hH Y (fun z8 hp8 hH8 F8 r8 => ⟨_, rfl, ?_⟩))
  have hP8 := P0_p F8 hP
  refine xist 12 ⟨u115, _, rfl⟩ rfl rfl ?_
  refine xald 13 ⟨u115, _, rfl⟩ rfl rfl ?_
  refine xgetD 16 (1) hH8 ⟨u115, _, rfl⟩ rfl (by decide) (by decide) rfl rfl (by decide) ?_
  refine xcst 17 (0) ⟨u115, _, rfl⟩ rfl (by decide) (fun z16 h16 => ?_)
  refine xputC 20 hH8 ⟨u115, _, rfl⟩ rfl (by decide) (by decide) rfl rfl (by decide) ⟨rfl, rfl⟩ (by omega) (by omega) (fun hp17 hH17 U17 => ?_)
  have s17 := U17.1
  refine xild 21 ⟨u115, _, rfl⟩ rfl rfl ?_
  refine xif_ne 24 ⟨u115, _, rfl⟩ rfl (fun c21 => ?_) (fun c21 => ?_)
  · refine xald 27 ⟨u115, _, rfl⟩ rfl rfl ?_
    refine xgetD 30 (3) hH17 ⟨u115, _, rfl⟩ rfl (by decide) (by decide) rfl rfl (by decide) ?_
    refine xald 31 ⟨u115, _, rfl⟩ rfl rfl ?_
    refine xgetD 34 (8) hH17 ⟨u115, _, rfl⟩ rfl (by decide) (by decide) rfl rfl (by decide) ?_
    refine xcallC 37 (o := 3) [.ref 8] [] hH17 ⟨u115, _, rfl⟩ rfl rfl (by decide) rfl (by decide) rfl ⟨rfl, rfl, rfl, rfl⟩ rfl (xsV (bL8_s be_18 (List.mem_of_getElem? (i := 178) rfl)) (Nat.ble_eq.mpr (by show _ ≤ d + 6; exact Nat.le_trans (by decide : _ ≤ 6) (Nat.le_add_left 6 d))) hH17 (P0_W (W := [(1, 0)]) (by decide) (rU_fr U17 rfl) hP8) ⟨⟨_, rfl, by decide, by simp⟩, ⟨_, rfl, by decide, by simp⟩, trivial⟩ rfl rfl rfl (fun hp34 hH34 hP34 F34 _ => ⟨_, rfl, ?_⟩))
    refine xald 38 ⟨u115, _, rfl⟩ rfl rfl ?_
    refine xgetD 41 (13) hH34 ⟨u115, _, rfl⟩ rfl (by decide) (by decide) rfl rfl (by decide) ?_
    refine xcallC 44 (o := 13) [] [] hH34 ⟨u115, _, rfl⟩ rfl rfl (by decide) rfl (by decide) rfl ⟨rfl, rfl, rfl, rfl⟩ rfl (xsV (bL8_s be_19 (List.mem_of_getElem? (i := 177) rfl)) (Nat.ble_eq.mpr (by show _ ≤ d + 6; exact Nat.le_trans (by decide : _ ≤ 6) (Nat.le_add_left 6 d))) hH34 hP34 ⟨⟨_, rfl, by decide, by simp⟩, trivial⟩ rfl rfl rfl (fun hp41 hH41 hP41 F41 _ => ⟨_, rfl, ?_⟩))
    refine xald 45 ⟨u115, _, rfl⟩ rfl rfl ?_
    refine xgetD 48 (14) hH41 ⟨u115, _, rfl⟩ rfl (by decide) (by decide) rfl rfl (by decide) ?_
    refine xcallC 51 (o := 14) [] [] hH41 ⟨u115, _, rfl⟩ rfl rfl (by decide) rfl (by decide) rfl ⟨rfl, rfl, rfl, rfl⟩ rfl (xsV (bL8_s be_20 (List.mem_of_getElem? (i := 176) rfl)) (Nat.ble_eq.mpr (by show _ ≤ d + 6; exact Nat.le_trans (by decide : _ ≤ 6) (Nat.le_add_left 6 d))) hH41 hP41 ⟨⟨_, rfl, by decide, by simp⟩, trivial⟩ rfl rfl rfl (fun hp48 hH48 hP48 F48 _ => ⟨_, rfl, ?_⟩))
    refine xald 52 ⟨u115, _, rfl⟩ rfl rfl ?_
    refine xcst 53 (0) ⟨u115, _, rfl⟩ rfl (by decide) (fun z52 h52 => ?_)
    refine xputC 56 hH48 ⟨u115, _, rfl⟩ rfl (by decide) (by decide) rfl rfl (by decide) ⟨rfl, rfl⟩ (by omega) (by omega) (fun hp53 hH53 U53 => ?_)
    have s53 := U53.1
    refine xald 57 ⟨u115, _, rfl⟩ rfl rfl ?_
    refine xcallC 60 (o := 0) [] [] hH53 ⟨u115, _, rfl⟩ rfl rfl (by decide) rfl (by decide) rfl ⟨rfl, rfl, rfl, rfl⟩ rfl (k_settle hH53 (P0_W (W := [(0, 11)]) (by decide) (rU_fr U53 rfl) hP48) (fun hp57 hH57 hP57 F57 => ⟨_, rfl, ?_⟩))
    have one : ∀ i, rN hp57 1 i = rN hp17 1 i := fun i => by rw [show rN hp57 1 i = rN hp53 1 i from r_fr F57 rfl, rU_ne U53 (by omega), show rN hp48 1 i = rN hp41 1 i from r_fr F48 rfl, show rN hp41 1 i = rN hp34 1 i from r_fr F41 rfl, show rN hp34 1 i = rN hp17 1 i from r_fr F34 rfl]
    refine xald 61 ⟨u115, _, rfl⟩ rfl rfl ?_
    refine xgetD 64 (3) hH57 ⟨u115, _, rfl⟩ rfl (by decide) (by decide) rfl rfl (by decide) ?_
    refine xgetC 67 hH57 ⟨u115, _, rfl⟩ rfl (by decide) (by decide) rfl rfl (by decide) (fun z64 h64 => ?_)
    exact xret ⟨u115, _, rfl⟩ rfl (hR _ hp57 hH57 hP57 ((((((((pFr_W F8).trans (rU_fr U17 (by decide))).trans (bFr_sub F34 (by decide))).trans (bFr_sub F41 (by decide))).trans (bFr_sub F48 (by decide))).trans (rU_fr U53 (by decide)))).trans (bFr_sub F57 (by decide))) (by rw [one 0]; omega) (by unfold rRd at r8; unfold rCd; cases e : tRd y with | inl er => rw [e] at r8; have := r8.1; omega | inr q => rw [e] at r8; exact ⟨by rw [one 1, rU_ne U17 (by omega)]; exact r8.2.2.1, by rw [one 2, rU_ne U17 (by omega)]; exact r8.2.2.2⟩))
  · refine xcst 25 (-1) ⟨u115, _, rfl⟩ rfl (by decide) (fun z24 h24 => ?_)
    exact xret ⟨u115, _, rfl⟩ rfl (hR _ hp17 hH17 (P0_W (W := [(1, 0)]) (by decide) (rU_fr U17 rfl) hP8) ((pFr_W F8).trans (rU_fr U17 (by decide))) (by omega) (by unfold rRd at r8; unfold rCd; cases e : tRd y with | inl er => rw [e] at r8; exact ⟨(rU_ne U17 (by omega)).trans r8.2.1, (rU_ne U17 (by omega)).trans r8.2.2⟩ | inr q => rw [e] at r8; have := r8.1; omega))
