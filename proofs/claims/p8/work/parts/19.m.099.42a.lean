/-! ===== what the law keeps: one state on both sides, too ===== -/
/-- one state on both sides -/
def stS (hp : amH) : Prop := ∃ (q : sR) (n : Nat) (h : Nat → sR) (sv : Option sR), clS hp q n h sv ∧ rfS hp q n h sv
/-- may the state be kept -/
def stW (W : List (Nat × Nat)) : Bool := W.all (fun p => !(Nat.ble 3 p.1 && Nat.ble p.1 7) && (!(Nat.ble 13 p.1 && Nat.ble p.1 51) && (!(Nat.beq p.1 67) && (!(Nat.ble 70 p.1 && Nat.ble p.1 71) && !(Nat.beq p.1 66 && (Nat.beq p.2 5 || (Nat.beq p.2 6 || Nat.beq p.2 999)))))))
theorem stW_s {W : List (Nat × Nat)} (h : stW W = true) : (∀ c k, (3 ≤ c ∧ c < 8) ∨ (13 ≤ c ∧ c ≤ 51) → bIn W c k = false) ∧ (∀ k, bIn W 67 k = false) ∧ bIn W 66 5 = false ∧ bIn W 66 6 = false ∧ (∀ k, bIn W 70 k = false) ∧ ∀ k, bIn W 71 k = false := by
  have g : ∀ p ∈ W, ¬ (3 ≤ p.1 ∧ p.1 ≤ 7) ∧ ¬ (13 ≤ p.1 ∧ p.1 ≤ 51) ∧ ¬ p.1 = 67 ∧ ¬ (70 ≤ p.1 ∧ p.1 ≤ 71) ∧ ¬ (p.1 = 66 ∧ (p.2 = 5 ∨ p.2 = 6 ∨ p.2 = 999)) := by
    intro p hp
    have := List.all_eq_true.mp h p hp
    simp only [Bool.and_eq_true, Bool.not_eq_true', Bool.and_eq_false_imp, Bool.or_eq_false_iff] at this
    obtain ⟨a, b, c, d, e⟩ := this
    refine ⟨fun z => ?_, fun z => ?_, fun z => ?_, fun z => ?_, fun z => ?_⟩
    · have := a (Nat.ble_eq_true_of_le z.1)
      rw [Nat.ble_eq_true_of_le z.2] at this; cases this
    · have := b (Nat.ble_eq_true_of_le z.1)
      rw [Nat.ble_eq_true_of_le z.2] at this; cases this
    · rw [z] at c; cases c
    · have := d (Nat.ble_eq_true_of_le z.1)
      rw [Nat.ble_eq_true_of_le z.2] at this; cases this
    · have := e (by rw [z.1]; rfl)
      rcases z.2 with y | y | y
      · rw [y] at this; exact absurd this.1 (by decide)
      · rw [y] at this; exact absurd this.2.1 (by decide)
      · rw [y] at this; exact absurd this.2.2 (by decide)
  refine ⟨fun c k hc => bIn_out (fun p hp z => ?_), fun k => bIn_out (fun p hp z => (g p hp).2.2.1 z.1), bIn_out (fun p hp z => (g p hp).2.2.2.2 ⟨z.1, by omega⟩), bIn_out (fun p hp z => (g p hp).2.2.2.2 ⟨z.1, by omega⟩), fun k => bIn_out (fun p hp z => (g p hp).2.2.2.1 (by omega)), fun k => bIn_out (fun p hp z => (g p hp).2.2.2.1 (by omega))⟩
  rcases hc with hc | hc
  · exact (g p hp).1 (by omega)
  · exact (g p hp).2.1 (by omega)
theorem stS_fr {W : List (Nat × Nat)} {hp hp1 : amH} (hS : stS hp) (F : bFr W hp hp1) (w : stW W = true) : stS hp1 := by
  obtain ⟨g1, g2, g3, g4, g5, g6⟩ := stW_s w
  obtain ⟨q, n, h, sv, c, r⟩ := hS
  exact ⟨q, n, h, sv, clS_8 c (fun c k hc => F c k (g1 c k hc)), rfS_W r F g2 g3 g4 g5 g6⟩
/-- what holds before and after every step of the law -/
def lawJ (hp : amH) : Prop := lawI hp ∧ stS hp
def lawX (W : List (Nat × Nat)) : Bool := lawW W && stW W
theorem lawJ_fr {W : List (Nat × Nat)} {hp hp1 : amH} (h : lawJ hp) (hH1 : bHk 84 bTT hp1) (hP1 : P0 hp1) (hF : bFr W hp hp1) (w : lawX W = true) : lawJ hp1 := by
  have w := (Bool.and_eq_true _ _).mp w
  exact ⟨lawI_fr h.1 hH1 hP1 hF w.1 w.1, stS_fr h.2 hF w.2⟩
theorem lawJ_83 {hp hp1 : amH} (h : lawJ hp) (hH1 : bHk 84 bTT hp1) (hF : bFr [(83, 999)] hp hp1) : lawJ hp1 := lawJ_fr h hH1 (P0_W (W := [(83, 999)]) (by decide) hF h.1.2.1) hF rfl
/-- a query with a spec keeps it -/
theorem qanyJ {d k : Nat} {s : bSp} {av : List Value} {hp : amH} {R : cQ} (hs : bSem amGG P0 84 bTT k s) (hd : Nat.ble s.2.2.1 d = true) (hI : lawJ hp) (ha : bArgs 84 s.1 av) (hf : s.2.1 = []) (w1 : lawX s.2.2.2.1 = true)
    (hR1 : ∀ v hp1, lawJ hp1 → bFr s.2.2.2.1 hp hp1 → (∃ c ∈ s.2.2.2.2.2, bRo 84 c.1 v) → R (.inl v) hp1 0 0) (hR2 : ∀ E hp1, lawJ hp1 → bFr s.2.2.2.1 hp hp1 → E ∈ s.2.2.2.2.1 → R (.inr E) hp1 1 6) : cK d k av hp R := by
  refine cK_mono (cK_of (xsem hs (Nat.le_of_ble_eq_true hd) hI.1.1 hI.1.2.1 ha (by rw [hf]; exact noF hp) (R := fun y hp1 => lawJ hp1 ∧ bFr s.2.2.2.1 hp hp1 ∧ bOut 84 s y hp1) (fun y hp1 g1 g2 g3 g4 => ⟨lawJ_fr hI g1 g2 g3 w1, g3, g4⟩))) (fun y hp1 mc ms h => ?_)
  obtain ⟨rfl, rfl, h1, h3, h2⟩ := h
  match y, h2 with
  | .inl v, h2 =>
    obtain ⟨c, g1, g2, -⟩ := h2
    exact hR1 v hp1 h1 h3 ⟨c, g1, g2⟩
  | .inr E, h2 => exact hR2 E hp1 h1 h3 h2
theorem qIJ {d k : Nat} {s : bSp} {av : List Value} {hp : amH} {R : cQ} (hs : bSem amGG P0 84 bTT k s) (hd : Nat.ble s.2.2.1 d = true) (hI : lawJ hp) (ha : bArgs 84 s.1 av) (hf : s.2.1 = []) (w1 : lawX s.2.2.2.1 = true) (hy : yI s = true)
    (hR1 : ∀ (z : Int32) hp1, lawJ hp1 → R (.inl (some (.int z))) hp1 0 0) (hR2 : ∀ E hp1, lawJ hp1 → E ∈ s.2.2.2.2.1 → R (.inr E) hp1 1 6) : cK d k av hp R := by
  refine qanyJ hs hd hI ha hf w1 (fun v hp1 h1 _ hv => ?_) (fun E hp1 g1 _ g3 => hR2 E hp1 g1 g3)
  obtain ⟨c, g1, g2⟩ := hv
  have hc := List.all_eq_true.mp hy c g1
  obtain ⟨c1, c2⟩ := c
  match c1, v, hc, g2 with
  | some (.inl q), some w, _, g2 =>
    obtain ⟨x, rfl, -, -⟩ := g2
    exact hR1 x hp1 h1
theorem qTJ {d k t : Nat} {s : bSp} {av : List Value} {hp : amH} {R : cQ} (hs : bSem amGG P0 84 bTT k s) (hd : Nat.ble s.2.2.1 d = true) (hI : lawJ hp) (ha : bArgs 84 s.1 av) (hf : s.2.1 = []) (w1 : lawX s.2.2.2.1 = true) (hy : yT t s = true)
    (hR1 : ∀ w hp1, lawJ hp1 → bT t w → R (.inl (some w)) hp1 0 0) (hR2 : ∀ E hp1, lawJ hp1 → E ∈ s.2.2.2.2.1 → R (.inr E) hp1 1 6) : cK d k av hp R := by
  refine qanyJ hs hd hI ha hf w1 (fun v hp1 h1 _ hv => ?_) (fun E hp1 g1 _ g3 => hR2 E hp1 g1 g3)
  obtain ⟨c, g1, g2⟩ := hv
  have hc := List.all_eq_true.mp hy c g1
  obtain ⟨c1, c2⟩ := c
  match c1, v, hc, g2 with
  | some (.inr (.inl u)), some w, hc, g2 =>
    have hc : Nat.beq u t = true := hc
    have hc := Nat.eq_of_beq_eq_true hc
    subst hc
    exact hR1 w hp1 h1 g2
