/-! ===== the law's helpers ===== -/
theorem bL1_s : bSems amGG P0 84 bTT bL1 := by rw [← bL1_eq]; exact bAll2_s (by decide) P0_fr bB1_ok (fun e he => by cases he)
theorem bL2_s : bSems amGG P0 84 bTT bL2 := by rw [← bL2_eq]; exact bAll2_s (by decide) P0_fr bB2_ok bL1_s
theorem bL3_s : bSems amGG P0 84 bTT bL3 := by rw [← bL3_eq]; exact bAll2_s (by decide) P0_fr bB3_ok bL2_s
theorem bL4_s : bSems amGG P0 84 bTT bL4 := by rw [← bL4_eq]; exact bAll2_s (by decide) P0_fr bB4_ok bL3_s
theorem bM4_s : bSems amGG P0 84 bTT bM4 := fun e he => by
  rcases List.mem_cons.mp (show e ∈ be_s38 :: bL4 from he) with rfl | h
  · exact be_s38_s bL4_s
  · exact bL4_s e h
theorem bL5_s : bSems amGG P0 84 bTT bL5 := by rw [← bL5_eq]; exact bAll2_s (by decide) P0_fr bB5_ok bM4_s
theorem bL6_s : bSems amGG P0 84 bTT bL6 := by rw [← bL6_eq]; exact bAll2_s (by decide) P0_fr bB6_ok bL5_s
theorem bM6_s : bSems amGG P0 84 bTT bM6 := fun e he => by
  rcases List.mem_cons.mp (show e ∈ be_s161 :: bL6 from he) with rfl | h
  · exact be_s161_s bL6_s
  · exact bL6_s e h
theorem bL7_s : bSems amGG P0 84 bTT bL7 := by rw [← bL7_eq]; exact bAll2_s (by decide) P0_fr bB7_ok bM6_s
theorem bL8_s : bSems amGG P0 84 bTT bL8 := by rw [← bL8_eq]; exact bAll2_s (by decide) P0_fr bB8_ok bL7_s
/-- what holds before and after every step of the law -/
def lawI (hp : amH) : Prop := bHk 84 bTT hp ∧ P0 hp ∧ rN hp 1 0 = rN hp 66 21
theorem lawI_fr {W : List (Nat × Nat)} {hp hp1 : amH} (h : lawI hp) (hH1 : bHk 84 bTT hp1) (hP1 : P0 hp1) (hF : bFr W hp hp1) (w1 : bIn W 1 0 = false) (w2 : bIn W 66 21 = false) : lawI hp1 :=
  ⟨hH1, hP1, by rw [show rN hp1 1 0 = rN hp 1 0 from r_fr hF w1, show rN hp1 66 21 = rN hp 66 21 from r_fr hF w2]; exact h.2.2⟩
theorem lawI_83 {hp hp1 : amH} (h : lawI hp) (hH1 : bHk 84 bTT hp1) (hF : bFr [(83, 999)] hp hp1) : lawI hp1 := lawI_fr h hH1 (P0_W (W := [(83, 999)]) (by decide) hF h.2.1) hF rfl rfl
theorem recv0 {hp : amH} (hH : bHk 84 bTT hp) (r : List Value) : amRecv 0 10 hp (.ref 0 :: r) = true := by
  obtain ⟨c, g1, g2⟩ := bHk_at hH (i := 0) (by decide) rfl
  unfold amRecv
  dsimp only
  rw [if_pos rfl, g1]
  have g2 : c.1 = 10 := g2.1
  exact decide_eq_true ⟨g2, by decide⟩
theorem recv66 {hp : amH} (hH : bHk 84 bTT hp) (r : List Value) : amRecv 0 11 hp (.ref 66 :: r) = true := by
  obtain ⟨vs, h1, -⟩ := x66 hH
  unfold amRecv
  dsimp only
  rw [if_pos rfl, h1]
  rfl
def yI (s : bSp) : Bool := s.2.2.2.2.2.all (fun c => match c.1 with
  | some (.inl _) => true
  | _ => false)
def yT (t : Nat) (s : bSp) : Bool := s.2.2.2.2.2.all (fun c => match c.1 with
  | some (.inr (.inl u)) => Nat.beq u t
  | _ => false)
theorem qany {d k : Nat} {s : bSp} {av : List Value} {hp : amH} {R : cQ} (hs : bSem amGG P0 84 bTT k s) (hd : Nat.ble s.2.2.1 d = true) (hI : lawI hp) (ha : bArgs 84 s.1 av) (hf : s.2.1 = []) (w1 : bIn s.2.2.2.1 1 0 = false) (w2 : bIn s.2.2.2.1 66 21 = false)
    (hR1 : ∀ v hp1, lawI hp1 → (∃ c ∈ s.2.2.2.2.2, bRo 84 c.1 v) → R (.inl v) hp1 0 0) (hR2 : ∀ E hp1, lawI hp1 → E ∈ s.2.2.2.2.1 → R (.inr E) hp1 1 6) : cK d k av hp R := by
  refine cK_mono (cK_of (xsem hs (Nat.le_of_ble_eq_true hd) hI.1 hI.2.1 ha (by rw [hf]; exact noF hp) (R := fun y hp1 => lawI hp1 ∧ bOut 84 s y hp1) (fun y hp1 g1 g2 g3 g4 => ⟨lawI_fr hI g1 g2 g3 w1 w2, g4⟩))) (fun y hp1 mc ms h => ?_)
  obtain ⟨rfl, rfl, h1, h2⟩ := h
  match y, h2 with
  | .inl v, h2 =>
    obtain ⟨c, g1, g2, -⟩ := h2
    exact hR1 v hp1 h1 ⟨c, g1, g2⟩
  | .inr E, h2 => exact hR2 E hp1 h1 h2
theorem qI {d k : Nat} {s : bSp} {av : List Value} {hp : amH} {R : cQ} (hs : bSem amGG P0 84 bTT k s) (hd : Nat.ble s.2.2.1 d = true) (hI : lawI hp) (ha : bArgs 84 s.1 av) (hf : s.2.1 = []) (w1 : bIn s.2.2.2.1 1 0 = false) (w2 : bIn s.2.2.2.1 66 21 = false) (hy : yI s = true)
    (hR1 : ∀ (z : Int32) hp1, lawI hp1 → R (.inl (some (.int z))) hp1 0 0) (hR2 : ∀ E hp1, lawI hp1 → E ∈ s.2.2.2.2.1 → R (.inr E) hp1 1 6) : cK d k av hp R := by
  refine qany hs hd hI ha hf w1 w2 (fun v hp1 h1 hv => ?_) hR2
  obtain ⟨c, g1, g2⟩ := hv
  have hc := List.all_eq_true.mp hy c g1
  obtain ⟨c1, c2⟩ := c
  match c1, v, hc, g2 with
  | some (.inl q), some w, _, g2 =>
    obtain ⟨x, rfl, -, -⟩ := g2
    exact hR1 x hp1 h1
theorem qT {d k t : Nat} {s : bSp} {av : List Value} {hp : amH} {R : cQ} (hs : bSem amGG P0 84 bTT k s) (hd : Nat.ble s.2.2.1 d = true) (hI : lawI hp) (ha : bArgs 84 s.1 av) (hf : s.2.1 = []) (w1 : bIn s.2.2.2.1 1 0 = false) (w2 : bIn s.2.2.2.1 66 21 = false) (hy : yT t s = true)
    (hR1 : ∀ w hp1, lawI hp1 → bT t w → R (.inl (some w)) hp1 0 0) (hR2 : ∀ E hp1, lawI hp1 → E ∈ s.2.2.2.2.1 → R (.inr E) hp1 1 6) : cK d k av hp R := by
  refine qany hs hd hI ha hf w1 w2 (fun v hp1 h1 hv => ?_) hR2
  obtain ⟨c, g1, g2⟩ := hv
  have hc := List.all_eq_true.mp hy c g1
  obtain ⟨c1, c2⟩ := c
  match c1, v, hc, g2 with
  | some (.inr (.inl u)), some w, hc, g2 =>
    have hc : Nat.beq u t = true := hc
    have hc := Nat.eq_of_beq_eq_true hc
    subst hc
    exact hR1 w hp1 h1 g2
theorem a0r : bYr 84 (.inr (.inr [0])) (.ref 0) := ⟨0, rfl, by decide, by simp⟩
theorem ai (x : Int32) : bYr 84 (.inl (0, 4294967295)) (.int x) := ⟨x, rfl, Nat.zero_le _, bOff_le x⟩
theorem bT1 {w : Value} (h : bT 1 w) : ∃ x, w = .long x := by
  rcases h with ⟨-, h⟩ | ⟨h, -⟩ | ⟨h, -⟩ | ⟨h, -⟩ | ⟨h, -⟩
  · exact h
  · omega
  · omega
  · omega
  · exact absurd h (by decide)
