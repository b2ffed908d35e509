/-! ===== ways by hand: closures ===== -/
def Sub (s a : Nat) : Prop := ∀ i, s.testBit i = true → a.testBit i = true
def mb (s : Nat) : Nat := ((List.range 15).filter (fun i => !s.testBit i)).length
theorem Sub_or {s a b : Nat} (h : Sub s a) : Sub s (a ||| b) := fun i hi => by
  rw [Nat.testBit_or, h i hi]
  rfl
theorem mb_lt {s a : Nat} (h : Sub s a) (hs : s < 32768) (ha : a < 32768) (hne : ¬ a = s) : mb a < mb s := by
  unfold mb
  refine fl_lt (fun i hi hq => ?_) ?_
  · cases e : s.testBit i
    · rfl
    · rw [h i e] at hq
      cases hq
  · refine Classical.byContradiction (fun hc => hne (Nat.eq_of_testBit_eq (fun i => ?_)))
    by_cases hi : i < 15
    · cases e : s.testBit i
      · cases e2 : a.testBit i
        · rfl
        · exact absurd ⟨i, List.mem_range.mpr hi, by rw [e]; rfl, by rw [e2]; rfl⟩ hc
      · exact h i e
    · have p : 2 ^ 15 ≤ 2 ^ i := Nat.pow_le_pow_right (by decide) (by omega)
      rw [Nat.testBit_lt_two_pow (x := s) (by omega), Nat.testBit_lt_two_pow (x := a) (by omega)]
theorem mb_le (s : Nat) : mb s ≤ 15 := by
  unfold mb
  have := List.length_filter_le (fun i => !s.testBit i) (List.range 15)
  rw [List.length_range] at this
  exact this
theorem l326y {d : Nat} {hp : amH} {R : xQ} (hH : bHk 84 bTT hp) (hP : P0 hp) {s x : Int32} {ss : Nat} {xx : Int} (x0 : 0 ≤ x.toInt) (x1 : x.toInt < rN hp 67 0) (hx : x.toInt = xx) (hQ : ∀ (a x1 : Int32) (aa : Nat) (v w : Option Value), x1.toInt = xx + 1 → a.toInt = (aa : Int) → aa < 32768 → Sub ss aa → xV (d + 1) am_m326 4 [some (.ref 66), some (.int s), some (.int a), some (.int x1), v, w] [] hp R) :
    ∀ (j : Nat) (a y : Int32) (v : Option Value) (aa : Nat), y.toInt + (j : Int) = 15 → 0 ≤ y.toInt → a.toInt = (aa : Int) → aa < 32768 → Sub ss aa → xV (d + 1) am_m326 15 [some (.ref 66), some (.int s), some (.int a), some (.int x), some (.int y), v] [] hp R := by
  have q1 := hP.1.1
  have q2 := hP.1.2.1
  intro j
  induction j using Nat.strongRecOn with
  | ind j ih =>
    intro a y v aa hj y0 ha ha2 hs
    have j47 : y.toInt < x.toInt → ∀ w : Int32, xV (d + 1) am_m326 47 [some (.ref 66), some (.int s), some (.int a), some (.int x), some (.int y), some (.int w)] [] hp R := by
      intro hyx w
      refine xild2 49 ⟨u326, _, rfl⟩ rfl rfl ?_
      refine xif_eq 52 ⟨u326, _, rfl⟩ rfl (fun c49 => ?_) (fun c49 => ?_)
      · refine xinc 78 (1) ⟨u326, _, rfl⟩ rfl rfl rfl (by decide) (by omega) (by omega) (fun z75 h75 => ?_)
        refine xgoto ⟨u326, _, rfl⟩ ?_
        exact ih (j - 1) (by omega) _ _ _ aa (by omega) (by omega) ha ha2 hs
      · refine xald 53 ⟨u326, _, rfl⟩ rfl rfl ?_
        refine xild 54 ⟨u326, _, rfl⟩ rfl rfl ?_
        refine xild2 56 ⟨u326, _, rfl⟩ rfl rfl ?_
        refine xcall 59 [.ref 66, .int _, .int _] [] hH ⟨u326, _, rfl⟩ rfl rfl rfl rfl rfl (k_third hH (by omega) (by omega) (by omega) (by omega) (fun z56 h56 => ⟨_, rfl, ?_⟩))
        refine xcst 60 (-1) ⟨u326, _, rfl⟩ rfl (by decide) (fun z59 h59 => ?_)
        refine xcmp_eq 63 ⟨u326, _, rfl⟩ rfl (fun c60 => ?_) (fun c60 => ?_)
        · refine xinc 78 (1) ⟨u326, _, rfl⟩ rfl rfl rfl (by decide) (by omega) (by omega) (fun z75 h75 => ?_)
          refine xgoto ⟨u326, _, rfl⟩ ?_
          exact ih (j - 1) (by omega) _ _ _ aa (by omega) (by omega) ha ha2 hs
        · refine xild 64 ⟨u326, _, rfl⟩ rfl rfl ?_
          refine xcst 65 (1) ⟨u326, _, rfl⟩ rfl (by decide) (fun z64 h64 => ?_)
          refine xald 66 ⟨u326, _, rfl⟩ rfl rfl ?_
          refine xild 67 ⟨u326, _, rfl⟩ rfl rfl ?_
          refine xild2 69 ⟨u326, _, rfl⟩ rfl rfl ?_
          refine xcall 72 [.ref 66, .int _, .int _] [.int _, .int _] hH ⟨u326, _, rfl⟩ rfl rfl rfl rfl rfl (k_third hH (by omega) (by omega) (by omega) (by omega) (fun z69 h69 => ⟨_, rfl, ?_⟩))
          obtain ⟨c, hc15, hcc⟩ : ∃ c : Nat, c < 15 ∧ tT hp x.toInt.toNat y.toInt.toNat = (c : Int) := by
            rcases Vf_m hP.1 (a := x.toInt.toNat) (b := y.toInt.toNat) (by omega) (by omega) with g | g
            · omega
            · exact g
          refine xshl 73 ⟨u326, _, rfl⟩ rfl ?_
          refine xor_ 74 ⟨u326, _, rfl⟩ rfl ?_
          obtain ⟨o1, o2⟩ := i_shl (o := z64) (c := z69) (n := z69.toInt.toNat) h64 (by omega) (by omega)
          obtain ⟨o3, o4⟩ := i_or ha o1 ha2 o2
          refine xist 75 ⟨u326, _, rfl⟩ rfl rfl ?_
          refine xinc 78 (1) ⟨u326, _, rfl⟩ rfl rfl rfl (by decide) (by omega) (by omega) (fun z75 h75 => ?_)
          refine xgoto ⟨u326, _, rfl⟩ ?_
          exact ih (j - 1) (by omega) _ _ _ _ (by omega) (by omega) o3 o4 (Sub_or hs)
    refine xild2 17 ⟨u326, _, rfl⟩ rfl rfl ?_
    refine xild 18 ⟨u326, _, rfl⟩ rfl rfl ?_
    refine xcmp_ge 21 ⟨u326, _, rfl⟩ rfl (fun c18 => ?_) (fun c18 => ?_)
    · refine xinc 84 (1) ⟨u326, _, rfl⟩ rfl rfl rfl (by decide) (by omega) (by omega) (fun z81 h81 => ?_)
      refine xgoto ⟨u326, _, rfl⟩ ?_
      exact hQ _ _ aa _ _ (by omega) ha ha2 hs
    · refine xild 22 ⟨u326, _, rfl⟩ rfl rfl ?_
      refine xild 23 ⟨u326, _, rfl⟩ rfl rfl ?_
      refine xshr 24 ⟨u326, _, rfl⟩ rfl ?_
      refine xcst 25 (1) ⟨u326, _, rfl⟩ rfl (by decide) (fun z24 h24 => ?_)
      refine xand 26 ⟨u326, _, rfl⟩ rfl ?_
      refine xcst 27 (1) ⟨u326, _, rfl⟩ rfl (by decide) (fun z26 h26 => ?_)
      refine xcmp_ne 30 ⟨u326, _, rfl⟩ rfl (fun c27 => ?_) (fun c27 => ?_)
      · refine xcst 45 (0) ⟨u326, _, rfl⟩ rfl (by decide) (fun z44 h44 => ?_)
        refine xist2 47 ⟨u326, _, rfl⟩ rfl rfl ?_
        exact j47 (by omega) _
      · refine xild 31 ⟨u326, _, rfl⟩ rfl rfl ?_
        refine xild2 33 ⟨u326, _, rfl⟩ rfl rfl ?_
        refine xshr 34 ⟨u326, _, rfl⟩ rfl ?_
        refine xcst 35 (1) ⟨u326, _, rfl⟩ rfl (by decide) (fun z34 h34 => ?_)
        refine xand 36 ⟨u326, _, rfl⟩ rfl ?_
        refine xcst 37 (1) ⟨u326, _, rfl⟩ rfl (by decide) (fun z36 h36 => ?_)
        refine xcmp_ne 40 ⟨u326, _, rfl⟩ rfl (fun c37 => ?_) (fun c37 => ?_)
        · refine xcst 45 (0) ⟨u326, _, rfl⟩ rfl (by decide) (fun z44 h44 => ?_)
          refine xist2 47 ⟨u326, _, rfl⟩ rfl rfl ?_
          exact j47 (by omega) _
        · refine xcst 41 (1) ⟨u326, _, rfl⟩ rfl (by decide) (fun z40 h40 => ?_)
          refine xgoto ⟨u326, _, rfl⟩ ?_
          refine xist2 47 ⟨u326, _, rfl⟩ rfl rfl ?_
          exact j47 (by omega) _
theorem l326x {d : Nat} {hp : amH} {R : xQ} (hH : bHk 84 bTT hp) (hP : P0 hp) {s : Int32} {ss : Nat} (hs0 : s.toInt = (ss : Int)) (hss : ss < 32768) (hrec : ∀ (s1 : Int32) (n1 : Nat), s1.toInt = (n1 : Int) → n1 < 32768 → mb n1 < mb ss → ∀ R1 : xQ, (∀ z : Int32, R1 (.inl (some (.int z))) hp) → xK d 326 [.ref 66, .int s1] hp R1) (hR : ∀ z : Int32, R (.inl (some (.int z))) hp) :
    ∀ (j : Nat) (a x : Int32) (v w : Option Value) (aa : Nat), x.toInt + (j : Int) = 15 → 0 ≤ x.toInt → a.toInt = (aa : Int) → aa < 32768 → Sub ss aa → xV (d + 1) am_m326 4 [some (.ref 66), some (.int s), some (.int a), some (.int x), v, w] [] hp R := by
  have q1 := hP.1.1
  have q2 := hP.1.2.1
  intro j
  induction j using Nat.strongRecOn with
  | ind j ih =>
    intro a x v w aa hj x0 ha ha2 hs
    refine xild 5 ⟨u326, _, rfl⟩ rfl rfl ?_
    refine xald 6 ⟨u326, _, rfl⟩ rfl rfl ?_
    refine xcall 9 [.ref 66] [.int _] hH ⟨u326, _, rfl⟩ rfl rfl rfl rfl rfl (k_points hH (fun z6 h6 => ⟨_, rfl, ?_⟩))
    refine xcmp_ge 12 ⟨u326, _, rfl⟩ rfl (fun c9 => ?_) (fun c9 => ?_)
    · refine xild 88 ⟨u326, _, rfl⟩ rfl rfl ?_
      refine xild 89 ⟨u326, _, rfl⟩ rfl rfl ?_
      refine xcmp_ne 92 ⟨u326, _, rfl⟩ rfl (fun c89 => ?_) (fun c89 => ?_)
      · refine xald 97 ⟨u326, _, rfl⟩ rfl rfl ?_
        refine xild 98 ⟨u326, _, rfl⟩ rfl rfl ?_
        refine xcall 101 [.ref 66, .int _] [] hH ⟨u326, _, rfl⟩ rfl rfl rfl rfl rfl (hrec _ aa ha ha2 (mb_lt hs hss ha2 (by omega)) _ (fun z98 => ⟨_, rfl, ?_⟩))
        exact xret ⟨u326, _, rfl⟩ rfl (hR _)
      · refine xild 93 ⟨u326, _, rfl⟩ rfl rfl ?_
        refine xgoto ⟨u326, _, rfl⟩ ?_
        exact xret ⟨u326, _, rfl⟩ rfl (hR _)
    · refine xcst 13 (0) ⟨u326, _, rfl⟩ rfl (by decide) (fun z12 h12 => ?_)
      refine xist2 15 ⟨u326, _, rfl⟩ rfl rfl ?_
      exact l326y hH hP x0 (by omega) rfl (fun a1 x1 aa1 v1 w1 k1 k2 k3 k4 => ih (j - 1) (by omega) _ _ _ _ aa1 (by omega) (by omega) k2 k3 k4) 15 _ _ _ aa (by omega) (by omega) ha ha2 hs
theorem k_clo0 {d : Nat} {hp : amH} {R : xQ} (hH : bHk 84 bTT hp) (hP : P0 hp) {s : Int32} {ss : Nat} (hs0 : s.toInt = (ss : Int)) (hss : ss < 32768) (hrec : ∀ (s1 : Int32) (n1 : Nat), s1.toInt = (n1 : Int) → n1 < 32768 → mb n1 < mb ss → ∀ R1 : xQ, (∀ z : Int32, R1 (.inl (some (.int z))) hp) → xK d 326 [.ref 66, .int s1] hp R1) (hR : ∀ z : Int32, R (.inl (some (.int z))) hp) : xK (d + 1) 326 [.ref 66, .int s] hp R := by
  refine xin (M := am_m326) rfl rfl rfl ?_
  refine xild 1 ⟨u326, _, rfl⟩ rfl rfl ?_
  refine xist 2 ⟨u326, _, rfl⟩ rfl rfl ?_
  refine xcst 3 (0) ⟨u326, _, rfl⟩ rfl (by decide) (fun z2 h2 => ?_)
  refine xist 4 ⟨u326, _, rfl⟩ rfl rfl ?_
  refine xpad 2 ?_
  exact l326x hH hP hs0 hss hrec hR 15 _ _ _ _ ss (by omega) (by omega) hs0 hss (fun i h => h)
theorem k_clo {hp : amH} (hH : bHk 84 bTT hp) (hP : P0 hp) : ∀ (D : Nat) {s : Int32} {ss : Nat} {R : xQ}, s.toInt = (ss : Int) → ss < 32768 → mb ss ≤ D → (∀ z : Int32, R (.inl (some (.int z))) hp) → xK (D + 1) 326 [.ref 66, .int s] hp R
  | 0, s, ss, R, h1, h2, h3, hR => k_clo0 hH hP h1 h2 (fun s1 n1 _ _ h => by omega) hR
  | D + 1, s, ss, R, h1, h2, h3, hR => k_clo0 hH hP h1 h2 (fun s1 n1 g1 g2 g3 R1 g4 => k_clo hH hP D g1 g2 (by omega) g4) hR
