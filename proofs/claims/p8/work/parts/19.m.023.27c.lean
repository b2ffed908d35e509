/-! ===== what the law keeps: the text and its error, the same on both sides ===== -/
/-- may the text's bytes, their number, the error be kept -/
def lawW (W : List (Nat × Nat)) : Bool := W.all (fun p => !(Nat.beq p.1 2) && (!(Nat.beq p.1 80) && (!(Nat.beq p.1 1 && (Nat.ble p.2 2 || Nat.beq p.2 999)) && !(Nat.beq p.1 66 && ((Nat.ble 21 p.2 && Nat.ble p.2 23) || Nat.beq p.2 999)))))
theorem bIn_out {W : List (Nat × Nat)} {c k : Nat} (h : ∀ p ∈ W, ¬ (p.1 = c ∧ (p.2 = k ∨ p.2 = 999))) : bIn W c k = false := by
  induction W with
  | nil => rfl
  | cons p r ih =>
    have h1 := h p List.mem_cons_self
    have ih := ih (fun q hq => h q (List.mem_cons_of_mem _ hq))
    unfold bIn
    split
    · next e =>
      have e := Nat.eq_of_beq_eq_true e
      split
      · next e2 => exact absurd ⟨e, Or.inl (Nat.eq_of_beq_eq_true e2)⟩ h1
      · split
        · next e3 => exact absurd ⟨e, Or.inr (Nat.eq_of_beq_eq_true e3)⟩ h1
        · exact ih
    · exact ih
theorem lawW_s {W : List (Nat × Nat)} (h : lawW W = true) : (∀ k, bIn W 2 k = false) ∧ (∀ k, bIn W 80 k = false) ∧ (∀ k, k ≤ 2 → bIn W 1 k = false) ∧ ∀ k, 21 ≤ k → k ≤ 23 → bIn W 66 k = false := by
  have g : ∀ p ∈ W, ¬ p.1 = 2 ∧ ¬ p.1 = 80 ∧ ¬ (p.1 = 1 ∧ (p.2 ≤ 2 ∨ p.2 = 999)) ∧ ¬ (p.1 = 66 ∧ ((21 ≤ p.2 ∧ p.2 ≤ 23) ∨ p.2 = 999)) := by
    intro p hp
    have := List.all_eq_true.mp h p hp
    simp only [Bool.and_eq_true, Bool.not_eq_true', Bool.and_eq_false_imp, Bool.or_eq_false_iff] at this
    obtain ⟨a, b, c, d⟩ := this
    refine ⟨fun z => ?_, fun z => ?_, fun z => ?_, fun z => ?_⟩
    · rw [z] at a; cases a
    · rw [z] at b; cases b
    · have := c (by rw [z.1]; rfl)
      rcases z.2 with y | y
      · rw [Nat.ble_eq_true_of_le y] at this; exact absurd this.1 (by decide)
      · rw [y] at this; exact absurd this.2 (by decide)
    · have := d (by rw [z.1]; rfl)
      rcases z.2 with y | y
      · have t := this.1 (Nat.ble_eq_true_of_le y.1)
        rw [Nat.ble_eq_true_of_le y.2] at t; cases t
      · rw [y] at this; exact absurd this.2 (by decide)
  exact ⟨fun k => bIn_out (fun p hp z => (g p hp).1 z.1), fun k => bIn_out (fun p hp z => (g p hp).2.1 z.1), fun k hk => bIn_out (fun p hp z => (g p hp).2.2.1 ⟨z.1, by omega⟩), fun k h1 h2 => bIn_out (fun p hp z => (g p hp).2.2.2 ⟨z.1, by omega⟩)⟩
/-- what holds before and after every step of the law -/
def lawI (hp : amH) : Prop := bHk 84 bTT hp ∧ P0 hp ∧ rN hp 1 0 = rN hp 66 21 ∧ cB hp = rB hp ∧ rN hp 1 1 = rN hp 66 22 ∧ rN hp 1 2 = rN hp 66 23
theorem lawI_fr {W : List (Nat × Nat)} {hp hp1 : amH} (h : lawI hp) (hH1 : bHk 84 bTT hp1) (hP1 : P0 hp1) (hF : bFr W hp hp1) (w1 : lawW W = true) (w2 : lawW W = true) : lawI hp1 := by
  obtain ⟨g1, g2, g3, g4⟩ := lawW_s w1
  obtain ⟨-, -, h3, h4, h5, h6⟩ := h
  have e0 : rN hp1 1 0 = rN hp 1 0 := r_fr hF (g3 0 (by decide))
  have e21 : rN hp1 66 21 = rN hp 66 21 := r_fr hF (g4 21 (by decide) (by decide))
  refine ⟨hH1, hP1, by rw [e0, e21]; exact h3, ?_, by rw [show rN hp1 1 1 = rN hp 1 1 from r_fr hF (g3 1 (by decide)), show rN hp1 66 22 = rN hp 66 22 from r_fr hF (g4 22 (by decide) (by decide))]; exact h5, by rw [show rN hp1 1 2 = rN hp 1 2 from r_fr hF (g3 2 (by decide)), show rN hp1 66 23 = rN hp 66 23 from r_fr hF (g4 23 (by decide) (by decide))]; exact h6⟩
  rw [rB_F hF (g4 21 (by decide) (by decide)) g2, ← h4]
  funext k
  unfold cB
  rw [e0, show rN hp1 2 k = rN hp 2 k from r_fr hF (g1 k)]
/-- the same bytes -/
theorem bt_of {hp : amH} (h : cB hp = rB hp) (hn : rN hp 1 0 = rN hp 66 21) (k : Nat) (hk : (k : Int) < rN hp 1 0) : rN hp 2 k % 256 = rN hp 80 k := by
  have := congrFun h k
  unfold cB rB at this
  rw [if_pos hk, if_pos (by omega)] at this
  exact this
theorem bt_to {hp : amH} (hn : rN hp 1 0 = rN hp 66 21) (h : ∀ k : Nat, (k : Int) < rN hp 1 0 → rN hp 2 k % 256 = rN hp 80 k) : cB hp = rB hp := by
  funext k
  unfold cB rB
  by_cases g : (k : Int) < rN hp 1 0
  · rw [if_pos g, if_pos (by omega), h k g]
  · rw [if_neg g, if_neg (by omega)]
theorem lawI_83 {hp hp1 : amH} (h : lawI hp) (hH1 : bHk 84 bTT hp1) (hF : bFr [(83, 999)] hp hp1) : lawI hp1 := lawI_fr h hH1 (P0_W (W := [(83, 999)]) (by decide) hF h.2.1) hF rfl rfl
theorem recv0 {hp : amH} (hH : bHk 84 bTT hp) (r : List Value) : amRecv 0 10 hp (.ref 0 :: r) = true := by
  obtain ⟨c, g1, g2⟩ := bHk_at hH (i := 0) (by decide) rfl
  unfold amRecv
  dsimp only
  rw [if_pos rfl, g1]
  have g2 : c.1 = 10 := g2.1
  exact decide_eq_true ⟨g2, by decide⟩
theorem recv66 {hp : amH} (hH : bHk 84 bTT hp) (r : List Value) : amRecv 0 11 hp (.ref 66 :: r) = true := by
  obtain ⟨vs, h1, -⟩ := x66 hH
  unfold amRecv
  dsimp only
  rw [if_pos rfl, h1]
  rfl
def yI (s : bSp) : Bool := s.2.2.2.2.2.all (fun c => match c.1 with
  | some (.inl _) => true
  | _ => false)
def yT (t : Nat) (s : bSp) : Bool := s.2.2.2.2.2.all (fun c => match c.1 with
  | some (.inr (.inl u)) => Nat.beq u t
  | _ => false)
theorem a0r : bYr 84 (.inr (.inr [0])) (.ref 0) := ⟨0, rfl, by decide, by simp⟩
theorem ai (x : Int32) : bYr 84 (.inl (0, 4294967295)) (.int x) := ⟨x, rfl, Nat.zero_le _, bOff_le x⟩
theorem bT1 {w : Value} (h : bT 1 w) : ∃ x, w = .long x := by
  rcases h with ⟨-, h⟩ | ⟨h, -⟩ | ⟨h, -⟩ | ⟨h, -⟩ | ⟨h, -⟩
  · exact h
  · omega
  · omega
  · omega
  · exact absurd h (by decide)
