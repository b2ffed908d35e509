/-! ===== ways by hand: completions ===== -/
theorem xaddw {M : amM} {pc a b d : Nat} {L : List (Option Value)} {st : List Value} {hp : amH} {Q : xQ} (q : Nat) {x y : Int32} (h : xI M pc .iadd a b) (e : q = pc + 1) (hw : ∀ z : Int32, xV d M q L (.int z :: st) hp Q) : xV d M pc L (.int y :: .int x :: st) hp Q := by
  refine xstep h (fun cl hl => ⟨cl, ?_, hl⟩) (hw (x + y))
  subst e
  simp [amDo, amStep, amII]
theorem u282 : bUp 0 am_m282.1 = true := by decide +kernel
theorem u283 : bUp 0 am_m283.1 = true := by decide +kernel
theorem u284 : bUp 0 am_m284.1 = true := by decide +kernel
theorem u285 : bUp 0 am_m285.1 = true := by decide +kernel
theorem l282 {d : Nat} {hp : amH} {R : xQ} (hH : bHk 84 bTT hp) (hP : P0 hp) {a b : Int32} (a1 : 0 ≤ a.toInt) (a2 : a.toInt < 15) (b1 : 0 ≤ b.toInt) (b2 : b.toInt < 15) (hR : ∀ z : Int32, R (.inl (some (.int z))) hp) : ∀ (j : Nat) (n c : Int32), c.toInt + (j : Int) = 15 → 0 ≤ c.toInt → 0 ≤ n.toInt → n.toInt ≤ c.toInt → xV (d + 4) am_m282 5 [some (.ref 66), some (.int a), some (.int b), some (.int n), some (.int c)] [] hp R := by
  have q1 := hP.1.1
  have q2 := hP.1.2.1
  intro j
  induction j using Nat.strongRecOn with
  | ind j ih =>
    intro n c hj c0 n0 n1
    refine xild2 7 ⟨u282, _, rfl⟩ rfl rfl ?_
    refine xald 8 ⟨u282, _, rfl⟩ rfl rfl ?_
    refine xcall 11 [.ref 66] [.int _] hH ⟨u282, _, rfl⟩ rfl rfl rfl rfl rfl (k_points hH (fun z8 h8 => ⟨_, rfl, ?_⟩))
    refine xcmp_ge 14 ⟨u282, _, rfl⟩ rfl (fun c11 => ?_) (fun c11 => ?_)
    · refine xild 52 ⟨u282, _, rfl⟩ rfl rfl ?_
      exact xret ⟨u282, _, rfl⟩ rfl (hR _)
    · refine xild 15 ⟨u282, _, rfl⟩ rfl rfl ?_
      refine xild2 17 ⟨u282, _, rfl⟩ rfl rfl ?_
      refine xild 18 ⟨u282, _, rfl⟩ rfl rfl ?_
      refine xcmp_eq 21 ⟨u282, _, rfl⟩ rfl (fun c18 => ?_) (fun c18 => ?_)
      · refine xcst 43 (0) ⟨u282, _, rfl⟩ rfl (by decide) (fun z42 h42 => ?_)
        refine xadd 44 _ ⟨u282, _, rfl⟩ rfl rfl (by omega) (by omega) (fun z43 h43 => ?_)
        refine xist 45 ⟨u282, _, rfl⟩ rfl rfl ?_
        refine xinc 48 (1) ⟨u282, _, rfl⟩ rfl rfl rfl (by decide) (by omega) (by omega) (fun z45 h45 => ?_)
        refine xgoto ⟨u282, _, rfl⟩ ?_
        exact ih (j - 1) (by omega) _ _ (by omega) (by omega) (by omega) (by omega)
      · refine xild2 23 ⟨u282, _, rfl⟩ rfl rfl ?_
        refine xild 24 ⟨u282, _, rfl⟩ rfl rfl ?_
        refine xcmp_eq 27 ⟨u282, _, rfl⟩ rfl (fun c24 => ?_) (fun c24 => ?_)
        · refine xcst 43 (0) ⟨u282, _, rfl⟩ rfl (by decide) (fun z42 h42 => ?_)
          refine xadd 44 _ ⟨u282, _, rfl⟩ rfl rfl (by omega) (by omega) (fun z43 h43 => ?_)
          refine xist 45 ⟨u282, _, rfl⟩ rfl rfl ?_
          refine xinc 48 (1) ⟨u282, _, rfl⟩ rfl rfl rfl (by decide) (by omega) (by omega) (fun z45 h45 => ?_)
          refine xgoto ⟨u282, _, rfl⟩ ?_
          exact ih (j - 1) (by omega) _ _ (by omega) (by omega) (by omega) (by omega)
        · refine xald 28 ⟨u282, _, rfl⟩ rfl rfl ?_
          refine xild 29 ⟨u282, _, rfl⟩ rfl rfl ?_
          refine xild 30 ⟨u282, _, rfl⟩ rfl rfl ?_
          refine xild2 32 ⟨u282, _, rfl⟩ rfl rfl ?_
          refine xcall 35 [.ref 66, .int _, .int _, .int _] [.int _] hH ⟨u282, _, rfl⟩ rfl rfl rfl rfl rfl (k_free hH (by omega) (by omega) (by omega) (by omega) (by omega) (by omega) (fun z32 h32 => ⟨_, rfl, ?_⟩))
          refine xif_eq 38 ⟨u282, _, rfl⟩ rfl (fun c35 => ?_) (fun c35 => ?_)
          · refine xcst 43 (0) ⟨u282, _, rfl⟩ rfl (by decide) (fun z42 h42 => ?_)
            refine xadd 44 _ ⟨u282, _, rfl⟩ rfl rfl (by omega) (by omega) (fun z43 h43 => ?_)
            refine xist 45 ⟨u282, _, rfl⟩ rfl rfl ?_
            refine xinc 48 (1) ⟨u282, _, rfl⟩ rfl rfl rfl (by decide) (by omega) (by omega) (fun z45 h45 => ?_)
            refine xgoto ⟨u282, _, rfl⟩ ?_
            exact ih (j - 1) (by omega) _ _ (by omega) (by omega) (by omega) (by omega)
          · refine xcst 39 (1) ⟨u282, _, rfl⟩ rfl (by decide) (fun z38 h38 => ?_)
            refine xgoto ⟨u282, _, rfl⟩ ?_
            refine xadd 44 _ ⟨u282, _, rfl⟩ rfl rfl (by omega) (by omega) (fun z43 h43 => ?_)
            refine xist 45 ⟨u282, _, rfl⟩ rfl rfl ?_
            refine xinc 48 (1) ⟨u282, _, rfl⟩ rfl rfl rfl (by decide) (by omega) (by omega) (fun z45 h45 => ?_)
            refine xgoto ⟨u282, _, rfl⟩ ?_
            exact ih (j - 1) (by omega) _ _ (by omega) (by omega) (by omega) (by omega)
theorem k_ways {d : Nat} {hp : amH} {R : xQ} {a b : Int32} (hH : bHk 84 bTT hp) (hP : P0 hp) (a1 : 0 ≤ a.toInt) (a2 : a.toInt < 15) (b1 : 0 ≤ b.toInt) (b2 : b.toInt < 15) (hR : ∀ z : Int32, R (.inl (some (.int z))) hp) : xK (d + 4) 282 [.ref 66, .int a, .int b] hp R := by
  refine xin (M := am_m282) rfl rfl rfl ?_
  refine xcst 1 (0) ⟨u282, _, rfl⟩ rfl (by decide) (fun z0 h0 => ?_)
  refine xist 2 ⟨u282, _, rfl⟩ rfl rfl ?_
  refine xcst 3 (0) ⟨u282, _, rfl⟩ rfl (by decide) (fun z2 h2 => ?_)
  refine xist2 5 ⟨u282, _, rfl⟩ rfl rfl ?_
  exact l282 hH hP a1 a2 b1 b2 hR 15 _ _ (by omega) (by omega) (by omega) (by omega)
/-- a pair's number, or none -/
def Bst (hp : amH) (z : Int) : Prop := z = -1 ∨ ∃ a b : Nat, a < b ∧ (b : Int) < rN hp 67 0 ∧ z = 16 * (a : Int) + b
theorem l283b {d : Nat} {hp : amH} {R : xQ} (hH : bHk 84 bTT hp) (hP : P0 hp) {a : Int32} {aa : Int} (a0 : 0 ≤ a.toInt) (ha : a.toInt = aa) (hQ : ∀ (t l a1 : Int32) (v w : Option Value), Bst hp t.toInt → a1.toInt = aa + 1 → xV (d + 5) am_m283 6 [some (.ref 66), some (.int t), some (.int l), some (.int a1), v, w] [] hp R) : ∀ (j : Nat) (t l b : Int32) (v : Option Value), b.toInt + (j : Int) = 15 → a.toInt < b.toInt → Bst hp t.toInt → xV (d + 5) am_m283 19 [some (.ref 66), some (.int t), some (.int l), some (.int a), some (.int b), v] [] hp R := by
  have q1 := hP.1.1
  have q2 := hP.1.2.1
  intro j
  induction j using Nat.strongRecOn with
  | ind j ih =>
    intro t l b v hj b0 hb
    refine xild2 21 ⟨u283, _, rfl⟩ rfl rfl ?_
    refine xald 22 ⟨u283, _, rfl⟩ rfl rfl ?_
    refine xcall 25 [.ref 66] [.int _] hH ⟨u283, _, rfl⟩ rfl rfl rfl rfl rfl (k_points hH (fun z22 h22 => ⟨_, rfl, ?_⟩))
    refine xcmp_ge 28 ⟨u283, _, rfl⟩ rfl (fun c25 => ?_) (fun c25 => ?_)
    · refine xinc 85 (1) ⟨u283, _, rfl⟩ rfl rfl rfl (by decide) (by omega) (by omega) (fun z82 h82 => ?_)
      refine xgoto ⟨u283, _, rfl⟩ ?_
      exact hQ _ _ _ _ _ hb (by omega)
    · refine xald 29 ⟨u283, _, rfl⟩ rfl rfl ?_
      refine xild 30 ⟨u283, _, rfl⟩ rfl rfl ?_
      refine xild2 32 ⟨u283, _, rfl⟩ rfl rfl ?_
      refine xcall 35 [.ref 66, .int _, .int _] [] hH ⟨u283, _, rfl⟩ rfl rfl rfl rfl rfl (k_third hH (by omega) (by omega) (by omega) (by omega) (fun z32 h32 => ⟨_, rfl, ?_⟩))
      refine xcst 36 (-1) ⟨u283, _, rfl⟩ rfl (by decide) (fun z35 h35 => ?_)
      refine xcmp_eq 39 ⟨u283, _, rfl⟩ rfl (fun c36 => ?_) (fun c36 => ?_)
      · refine xald 43 ⟨u283, _, rfl⟩ rfl rfl ?_
        refine xild 44 ⟨u283, _, rfl⟩ rfl rfl ?_
        refine xild2 46 ⟨u283, _, rfl⟩ rfl rfl ?_
        refine xcall 49 [.ref 66, .int _, .int _] [] hH ⟨u283, _, rfl⟩ rfl rfl rfl rfl rfl (k_ways hH hP (by omega) (by omega) (by omega) (by omega) (fun z46 => ⟨_, rfl, ?_⟩))
        refine xist2 51 ⟨u283, _, rfl⟩ rfl rfl ?_
        refine xild 52 ⟨u283, _, rfl⟩ rfl rfl ?_
        refine xcst 53 (-1) ⟨u283, _, rfl⟩ rfl (by decide) (fun z52 h52 => ?_)
        refine xcmp_eq 56 ⟨u283, _, rfl⟩ rfl (fun c53 => ?_) (fun c53 => ?_)
        · refine xbip 67 (16) ⟨u283, _, rfl⟩ rfl (by decide) (fun z65 h65 => ?_)
          refine xild 68 ⟨u283, _, rfl⟩ rfl rfl ?_
          refine xmul 69 (16 * Int32.toInt a) ⟨u283, _, rfl⟩ rfl (by rw [h65]) (by omega) (by omega) (fun z68 h68 => ?_)
          refine xild2 71 ⟨u283, _, rfl⟩ rfl rfl ?_
          refine xadd 72 _ ⟨u283, _, rfl⟩ rfl rfl (by omega) (by omega) (fun z71 h71 => ?_)
          refine xist 73 ⟨u283, _, rfl⟩ rfl rfl ?_
          refine xild2 75 ⟨u283, _, rfl⟩ rfl rfl ?_
          refine xist 76 ⟨u283, _, rfl⟩ rfl rfl ?_
          refine xinc 79 (1) ⟨u283, _, rfl⟩ rfl rfl rfl (by decide) (by omega) (by omega) (fun z76 h76 => ?_)
          refine xgoto ⟨u283, _, rfl⟩ ?_
          exact ih (j - 1) (by omega) _ _ _ _ (by omega) (by omega) (Or.inr ⟨a.toInt.toNat, b.toInt.toNat, by omega, by omega, by omega⟩)
        · refine xild2 58 ⟨u283, _, rfl⟩ rfl rfl ?_
          refine xild 59 ⟨u283, _, rfl⟩ rfl rfl ?_
          refine xcmp_lt 62 ⟨u283, _, rfl⟩ rfl (fun c59 => ?_) (fun c59 => ?_)
          · refine xbip 67 (16) ⟨u283, _, rfl⟩ rfl (by decide) (fun z65 h65 => ?_)
            refine xild 68 ⟨u283, _, rfl⟩ rfl rfl ?_
            refine xmul 69 (16 * Int32.toInt a) ⟨u283, _, rfl⟩ rfl (by rw [h65]) (by omega) (by omega) (fun z68 h68 => ?_)
            refine xild2 71 ⟨u283, _, rfl⟩ rfl rfl ?_
            refine xadd 72 _ ⟨u283, _, rfl⟩ rfl rfl (by omega) (by omega) (fun z71 h71 => ?_)
            refine xist 73 ⟨u283, _, rfl⟩ rfl rfl ?_
            refine xild2 75 ⟨u283, _, rfl⟩ rfl rfl ?_
            refine xist 76 ⟨u283, _, rfl⟩ rfl rfl ?_
            refine xinc 79 (1) ⟨u283, _, rfl⟩ rfl rfl rfl (by decide) (by omega) (by omega) (fun z76 h76 => ?_)
            refine xgoto ⟨u283, _, rfl⟩ ?_
            exact ih (j - 1) (by omega) _ _ _ _ (by omega) (by omega) (Or.inr ⟨a.toInt.toNat, b.toInt.toNat, by omega, by omega, by omega⟩)
          · refine xgoto ⟨u283, _, rfl⟩ ?_
            refine xinc 79 (1) ⟨u283, _, rfl⟩ rfl rfl rfl (by decide) (by omega) (by omega) (fun z76 h76 => ?_)
            refine xgoto ⟨u283, _, rfl⟩ ?_
            exact ih (j - 1) (by omega) _ _ _ _ (by omega) (by omega) hb
      · refine xgoto ⟨u283, _, rfl⟩ ?_
        refine xinc 79 (1) ⟨u283, _, rfl⟩ rfl rfl rfl (by decide) (by omega) (by omega) (fun z76 h76 => ?_)
        refine xgoto ⟨u283, _, rfl⟩ ?_
        exact ih (j - 1) (by omega) _ _ _ _ (by omega) (by omega) hb
theorem l283a {d : Nat} {hp : amH} {R : xQ} (hH : bHk 84 bTT hp) (hP : P0 hp) (hR : ∀ z : Int32, Bst hp z.toInt → R (.inl (some (.int z))) hp) : ∀ (j : Nat) (t l a : Int32) (v w : Option Value), a.toInt + (j : Int) = 15 → 0 ≤ a.toInt → Bst hp t.toInt → xV (d + 5) am_m283 6 [some (.ref 66), some (.int t), some (.int l), some (.int a), v, w] [] hp R := by
  have q1 := hP.1.1
  have q2 := hP.1.2.1
  intro j
  induction j using Nat.strongRecOn with
  | ind j ih =>
    intro t l a v w hj a0 hb
    refine xild 7 ⟨u283, _, rfl⟩ rfl rfl ?_
    refine xald 8 ⟨u283, _, rfl⟩ rfl rfl ?_
    refine xcall 11 [.ref 66] [.int _] hH ⟨u283, _, rfl⟩ rfl rfl rfl rfl rfl (k_points hH (fun z8 h8 => ⟨_, rfl, ?_⟩))
    refine xcmp_ge 14 ⟨u283, _, rfl⟩ rfl (fun c11 => ?_) (fun c11 => ?_)
    · refine xild 89 ⟨u283, _, rfl⟩ rfl rfl ?_
      exact xret ⟨u283, _, rfl⟩ rfl (hR _ hb)
    · refine xild 15 ⟨u283, _, rfl⟩ rfl rfl ?_
      refine xcst 16 (1) ⟨u283, _, rfl⟩ rfl (by decide) (fun z15 h15 => ?_)
      refine xadd 17 _ ⟨u283, _, rfl⟩ rfl rfl (by omega) (by omega) (fun z16 h16 => ?_)
      refine xist2 19 ⟨u283, _, rfl⟩ rfl rfl ?_
      exact l283b hH hP (aa := a.toInt) a0 rfl (fun t1 l1 a1 v1 w1 k1 k2 => ih (j - 1) (by omega) _ _ _ _ _ (by omega) (by omega) k1) (14 - a.toInt).toNat _ _ _ _ (by omega) (by omega) hb
theorem k_tight {d : Nat} {hp : amH} {R : xQ} (hH : bHk 84 bTT hp) (hP : P0 hp) (hR : ∀ z : Int32, Bst hp z.toInt → R (.inl (some (.int z))) hp) : xK (d + 5) 283 [.ref 66] hp R := by
  refine xin (M := am_m283) rfl rfl rfl ?_
  refine xcst 1 (-1) ⟨u283, _, rfl⟩ rfl (by decide) (fun z0 h0 => ?_)
  refine xist 2 ⟨u283, _, rfl⟩ rfl rfl ?_
  refine xcst 3 (0) ⟨u283, _, rfl⟩ rfl (by decide) (fun z2 h2 => ?_)
  refine xist 4 ⟨u283, _, rfl⟩ rfl rfl ?_
  refine xcst 5 (0) ⟨u283, _, rfl⟩ rfl (by decide) (fun z4 h4 => ?_)
  refine xist 6 ⟨u283, _, rfl⟩ rfl rfl ?_
  refine xpad 2 ?_
  exact l283a hH hP hR 15 _ _ _ _ _ (by omega) (by omega) (Or.inl h0)
/-- how many pairs are uncovered -/
def unc (hp : amH) : Nat := ((List.range 225).filter (fun s => decide (tT hp (s / 15) (s % 15) = -1))).length
theorem fl_lt {p q : Nat → Bool} : ∀ {L : List Nat}, (∀ s ∈ L, q s = true → p s = true) → (∃ s ∈ L, p s = true ∧ q s = false) → (L.filter q).length < (L.filter p).length
  | [], _, ⟨s, h, _⟩ => by cases h
  | x :: r, h, ⟨s, hs, h1, h2⟩ => by
    have le : ∀ {L : List Nat}, (∀ s ∈ L, q s = true → p s = true) → (L.filter q).length ≤ (L.filter p).length := by
      intro L
      induction L with
      | nil => intro _; exact Nat.le_refl _
      | cons y t ih =>
        intro hl
        have ih := ih (fun s hs => hl s (List.mem_cons_of_mem _ hs))
        have hy := hl y List.mem_cons_self
        simp only [List.filter_cons]
        cases e1 : q y
        · cases e2 : p y
          · simpa using ih
          · simp only [Bool.false_eq_true, if_false, if_true, List.length_cons]
            omega
        · rw [hy e1]
          simp only [if_true, List.length_cons]
          omega
    have hx := h x List.mem_cons_self
    have hr : ∀ s ∈ r, q s = true → p s = true := fun s hs => h s (List.mem_cons_of_mem _ hs)
    simp only [List.filter_cons]
    rcases List.mem_cons.mp hs with z | z
    · subst z
      rw [h1, h2]
      have := le hr
      simp only [Bool.false_eq_true, if_false, if_true, List.length_cons]
      omega
    · have := fl_lt hr ⟨s, z, h1, h2⟩
      cases e1 : q x
      · cases e2 : p x
        · simpa using this
        · simp only [Bool.false_eq_true, if_false, if_true, List.length_cons]
          omega
      · rw [hx e1]
        simp only [if_true, List.length_cons]
        omega
theorem unc_lt {hp hp1 : amH} {x y z : Nat} (hx : x < 15) (hy : y < 15) (hxy : ¬ x = y) (hf : tT hp x y = -1) {f : Nat → Nat → Int} (hfx : ¬ f x y = -1) (hfr : ∀ u v, pr x y z u v → tT hp u v = -1) (hT : ∀ u v, u < 15 → v < 15 → tT hp1 u v = if pr x y z u v then f u v else tT hp u v) : unc hp1 < unc hp := by
  unfold unc
  refine fl_lt (fun s hs h => ?_) ⟨15 * x + y, List.mem_range.mpr (by omega), ?_, ?_⟩
  · have hs := List.mem_range.mp hs
    have h := of_decide_eq_true h
    refine decide_eq_true ?_
    rw [hT _ _ (by omega) (by omega)] at h
    split at h
    · next e => exact hfr _ _ e
    · exact h
  · rw [show (15 * x + y) / 15 = x by omega, show (15 * x + y) % 15 = y by omega]
    exact decide_eq_true hf
  · rw [show (15 * x + y) / 15 = x by omega, show (15 * x + y) % 15 = y by omega]
    refine decide_eq_false ?_
    rw [hT x y hx hy, if_pos ⟨hxy, Or.inl rfl, Or.inr (Or.inl rfl)⟩]
    exact hfx
theorem unc_le (hp : amH) : unc hp ≤ 225 := by
  unfold unc
  have := List.length_filter_le (fun s => decide (tT hp (s / 15) (s % 15) = -1)) (List.range 225)
  rw [List.length_range] at this
  exact this
theorem unc_eq {hp hp1 : amH} (h : ∀ i, i < 229 → rN hp1 67 i = rN hp 67 i) : unc hp1 = unc hp := by
  unfold unc
  congr 1
  refine List.filter_congr (fun s hs => ?_)
  have hs := List.mem_range.mp hs
  unfold tT
  rw [h _ (by omega)]
theorem fr3_all {hp : amH} (hV : Vf (rN hp 67)) {x y z : Nat} (hx : x < 15) (hy : y < 15) (hz : z < 15) (hf : fr3 hp x y z) : ∀ u v, pr x y z u v → tT hp u v = -1 := by
  intro u v ⟨g1, g2, g3⟩
  obtain ⟨f1, f2, f3⟩ := hf
  have s1 := Vf_sym hV (a := x) (b := y) hx hy
  have s2 := Vf_sym hV (a := y) (b := z) hy hz
  have s3 := Vf_sym hV (a := x) (b := z) hx hz
  rcases g2 with rfl | rfl | rfl <;> rcases g3 with rfl | rfl | rfl <;> first | exact absurd rfl g1 | assumption | omega
theorem l284 {d : Nat} {hp0 : amH} {R : xQ} {t a b : Int32} (a0 : 0 ≤ a.toInt) (ab : a.toInt < b.toInt) (b1 : b.toInt < rN hp0 67 0) (hrec : (∀ hp1, bHk 84 bTT hp1 → P0 hp1 → unc hp1 < unc hp0 → ∀ R1 : xQ, (∀ (z : Int32) hp2, bHk 84 bTT hp2 → P0 hp2 → bFr [(67, 999)] hp1 hp2 → (∀ i, i < 229 → rN hp2 67 i = rN hp1 67 i) → R1 (.inl (some (.int z))) hp2) → xK (d + 5) 284 [.ref 66] hp1 R1)) (hR : (∀ (z : Int32) hp1, bHk 84 bTT hp1 → P0 hp1 → bFr [(67, 999)] hp0 hp1 → (∀ i, i < 229 → rN hp1 67 i = rN hp0 67 i) → R (.inl (some (.int z))) hp1)) :
    ∀ (j : Nat) (n c : Int32) (hp : amH), bHk 84 bTT hp → P0 hp → bFr [(67, 999)] hp0 hp → (∀ i, i < 229 → rN hp 67 i = rN hp0 67 i) → c.toInt + (j : Int) = 15 → 0 ≤ c.toInt → xV (d + 6) am_m284 28 [some (.ref 66), some (.int t), some (.int a), some (.int b), some (.int n), some (.int c)] [] hp R := by
  intro j
  induction j using Nat.strongRecOn with
  | ind j ih =>
    intro n c hp hH hP hF hE hj c0
    have q1 := hP.1.1
    have q2 := hP.1.2.1
    have e0 := hE 0 (by omega)
    refine xild2 30 ⟨u284, _, rfl⟩ rfl rfl ?_
    refine xald 31 ⟨u284, _, rfl⟩ rfl rfl ?_
    refine xcall 34 [.ref 66] [.int _] hH ⟨u284, _, rfl⟩ rfl rfl rfl rfl rfl (k_points hH (fun z31 h31 => ⟨_, rfl, ?_⟩))
    refine xcmp_ge 37 ⟨u284, _, rfl⟩ rfl (fun c34 => ?_) (fun c34 => ?_)
    · refine xild2 96 ⟨u284, _, rfl⟩ rfl rfl ?_
      exact xret ⟨u284, _, rfl⟩ rfl (hR _ hp hH hP hF hE)
    · refine xild2 39 ⟨u284, _, rfl⟩ rfl rfl ?_
      refine xild 40 ⟨u284, _, rfl⟩ rfl rfl ?_
      refine xcmp_eq 43 ⟨u284, _, rfl⟩ rfl (fun c40 => ?_) (fun c40 => ?_)
      · refine xinc 91 (1) ⟨u284, _, rfl⟩ rfl rfl rfl (by decide) (by omega) (by omega) (fun z88 h88 => ?_)
        refine xgoto ⟨u284, _, rfl⟩ ?_
        exact ih (j - 1) (by omega) _ _ _ hH hP hF hE (by omega) (by omega)
      · refine xild2 45 ⟨u284, _, rfl⟩ rfl rfl ?_
        refine xild 46 ⟨u284, _, rfl⟩ rfl rfl ?_
        refine xcmp_eq 49 ⟨u284, _, rfl⟩ rfl (fun c46 => ?_) (fun c46 => ?_)
        · refine xinc 91 (1) ⟨u284, _, rfl⟩ rfl rfl rfl (by decide) (by omega) (by omega) (fun z88 h88 => ?_)
          refine xgoto ⟨u284, _, rfl⟩ ?_
          exact ih (j - 1) (by omega) _ _ _ hH hP hF hE (by omega) (by omega)
        · refine xald 50 ⟨u284, _, rfl⟩ rfl rfl ?_
          refine xild 51 ⟨u284, _, rfl⟩ rfl rfl ?_
          refine xild 52 ⟨u284, _, rfl⟩ rfl rfl ?_
          refine xild2 54 ⟨u284, _, rfl⟩ rfl rfl ?_
          refine xcall 57 [.ref 66, .int _, .int _, .int _] [] hH ⟨u284, _, rfl⟩ rfl rfl rfl rfl rfl (k_free hH (by omega) (by omega) (by omega) (by omega) (by omega) (by omega) (fun z54 h54 => ⟨_, rfl, ?_⟩))
          refine xif_ne 60 ⟨u284, _, rfl⟩ rfl (fun c57 => ?_) (fun c57 => ?_)
          · refine xald 64 ⟨u284, _, rfl⟩ rfl rfl ?_
            refine xild 65 ⟨u284, _, rfl⟩ rfl rfl ?_
            refine xild 66 ⟨u284, _, rfl⟩ rfl rfl ?_
            refine xild2 68 ⟨u284, _, rfl⟩ rfl rfl ?_
            have ff : fr3 hp a.toInt.toNat b.toInt.toNat c.toInt.toNat := by rcases h54 with g | g <;> first | exact g.2 | omega
            have fa := fr3_all hP.1 (by omega) (by omega) (by omega) ff
            refine xcall 71 [.ref 66, .int _, .int _, .int _] [] hH ⟨u284, _, rfl⟩ rfl rfl rfl rfl rfl (k_put hH hP (by omega) (by omega) (by omega) (by omega) (by omega) (by omega) (by omega) (by omega) (by omega) (by rcases h54 with g | g <;> first | exact g.2 | omega) (fun hp68 hH68 hP68 F68 E68 T68 => ⟨_, rfl, ?_⟩))
            have e68 : rN hp68 67 0 = rN hp 67 0 := E68 0 (by omega)
            refine xild2 73 ⟨u284, _, rfl⟩ rfl rfl ?_
            refine xald 74 ⟨u284, _, rfl⟩ rfl rfl ?_
            refine xcall 77 [.ref 66] [.int _] hH68 ⟨u284, _, rfl⟩ rfl rfl rfl rfl rfl (hrec hp68 hH68 hP68 (by rw [← unc_eq hE]; exact unc_lt (by omega) (by omega) (by omega) ff.1 (f := fun u v => a.toInt + b.toInt + c.toInt - u - v) (by omega) fa T68) _ (fun z74 hp74 hH74 hP74 F74 E74 => ⟨_, rfl, ?_⟩))
            refine xaddw 78 ⟨u284, _, rfl⟩ rfl (fun z77 => ?_)
            refine xist2 80 ⟨u284, _, rfl⟩ rfl rfl ?_
            refine xald 81 ⟨u284, _, rfl⟩ rfl rfl ?_
            refine xild 82 ⟨u284, _, rfl⟩ rfl rfl ?_
            refine xild 83 ⟨u284, _, rfl⟩ rfl rfl ?_
            refine xild2 85 ⟨u284, _, rfl⟩ rfl rfl ?_
            refine xcall 88 [.ref 66, .int _, .int _, .int _] [] hH74 ⟨u284, _, rfl⟩ rfl rfl rfl rfl rfl (k_take hH74 hP74 (by omega) (by omega) (by omega) (by omega) (by
        rw [show tT hp74 a.toInt.toNat b.toInt.toNat = tT hp68 a.toInt.toNat b.toInt.toNat from E74 _ (by omega), T68 _ _ (by omega) (by omega), if_pos ⟨by omega, Or.inl rfl, Or.inr (Or.inl rfl)⟩]
        omega) (by omega) (fun hp85 hH85 hP85 F85 E85 T85 => ⟨_, rfl, ?_⟩))
            have e85 : rN hp85 67 0 = rN hp74 67 0 := E85 0 (by omega)
            have E99 : ∀ i, i < 229 → rN hp85 67 i = rN hp0 67 i := by
              intro i hi
              rcases Nat.lt_or_ge i 4 with z | z
              · rw [E85 i z, E74 i hi, E68 i z, hE i hi]
              · have e1 : i = 4 + 15 * ((i - 4) / 15) + (i - 4) % 15 := by omega
                have e2 := T85 ((i - 4) / 15) ((i - 4) % 15) (by omega) (by omega)
                have e3 := T68 ((i - 4) / 15) ((i - 4) % 15) (by omega) (by omega)
                have e4 : tT hp74 ((i - 4) / 15) ((i - 4) % 15) = tT hp68 ((i - 4) / 15) ((i - 4) % 15) := E74 _ (by omega)
                rw [← hE i hi]
                have g1 : rN hp85 67 i = tT hp85 ((i - 4) / 15) ((i - 4) % 15) := by unfold tT; rw [← e1]
                have g2 : rN hp 67 i = tT hp ((i - 4) / 15) ((i - 4) % 15) := by unfold tT; rw [← e1]
                rw [g1, g2, e2, e4, e3]
                split
                · next q => exact (fa _ _ q).symm
                · rfl
            refine xinc 91 (1) ⟨u284, _, rfl⟩ rfl rfl rfl (by decide) (by omega) (by omega) (fun z88 h88 => ?_)
            refine xgoto ⟨u284, _, rfl⟩ ?_
            exact ih (j - 1) (by omega) _ _ _ hH85 hP85 (hF.trans (F68.trans (F74.trans F85))) E99 (by omega) (by omega)
          · refine xgoto ⟨u284, _, rfl⟩ ?_
            refine xinc 91 (1) ⟨u284, _, rfl⟩ rfl rfl rfl (by decide) (by omega) (by omega) (fun z88 h88 => ?_)
            refine xgoto ⟨u284, _, rfl⟩ ?_
            exact ih (j - 1) (by omega) _ _ _ hH hP hF hE (by omega) (by omega)
theorem k_comp0 {d : Nat} {hp0 : amH} {R : xQ} (hH : bHk 84 bTT hp0) (hP : P0 hp0) (hrec : (∀ hp1, bHk 84 bTT hp1 → P0 hp1 → unc hp1 < unc hp0 → ∀ R1 : xQ, (∀ (z : Int32) hp2, bHk 84 bTT hp2 → P0 hp2 → bFr [(67, 999)] hp1 hp2 → (∀ i, i < 229 → rN hp2 67 i = rN hp1 67 i) → R1 (.inl (some (.int z))) hp2) → xK (d + 5) 284 [.ref 66] hp1 R1)) (hR : (∀ (z : Int32) hp1, bHk 84 bTT hp1 → P0 hp1 → bFr [(67, 999)] hp0 hp1 → (∀ i, i < 229 → rN hp1 67 i = rN hp0 67 i) → R (.inl (some (.int z))) hp1)) : xK (d + 6) 284 [.ref 66] hp0 R := by
  have q1 := hP.1.1
  have q2 := hP.1.2.1
  refine xin (M := am_m284) rfl rfl rfl ?_
  refine xald 1 ⟨u284, _, rfl⟩ rfl rfl ?_
  refine xcall 4 [.ref 66] [] hH ⟨u284, _, rfl⟩ rfl rfl rfl rfl rfl (k_tight hH hP (fun z1 h1 => ⟨_, rfl, ?_⟩))
  refine xist 5 ⟨u284, _, rfl⟩ rfl rfl ?_
  refine xild 6 ⟨u284, _, rfl⟩ rfl rfl ?_
  refine xcst 7 (-1) ⟨u284, _, rfl⟩ rfl (by decide) (fun z6 h6 => ?_)
  refine xcmp_ne 10 ⟨u284, _, rfl⟩ rfl (fun c7 => ?_) (fun c7 => ?_)
  · obtain ⟨x, y, hxy, hy, hz⟩ : ∃ x y : Nat, x < y ∧ (y : Int) < rN hp0 67 0 ∧ z1.toInt = 16 * (x : Int) + y := by
      rcases h1 with z | z
      · omega
      · exact z
    refine xild 13 ⟨u284, _, rfl⟩ rfl rfl ?_
    refine xbip 15 (16) ⟨u284, _, rfl⟩ rfl (by decide) (fun z13 h13 => ?_)
    refine xdiv 16 (Int32.toInt z1 / 16) ⟨u284, _, rfl⟩ rfl (by omega) (by omega) (by rw [h13]) (fun z15 h15 => ?_)
    refine xist 17 ⟨u284, _, rfl⟩ rfl rfl ?_
    refine xild 18 ⟨u284, _, rfl⟩ rfl rfl ?_
    refine xbip 20 (16) ⟨u284, _, rfl⟩ rfl (by decide) (fun z18 h18 => ?_)
    refine xrem 21 (Int32.toInt z1 % 16) ⟨u284, _, rfl⟩ rfl (by omega) (by omega) (by rw [h18]) (fun z20 h20 => ?_)
    refine xist 22 ⟨u284, _, rfl⟩ rfl rfl ?_
    refine xcst 23 (0) ⟨u284, _, rfl⟩ rfl (by decide) (fun z22 h22 => ?_)
    refine xist2 25 ⟨u284, _, rfl⟩ rfl rfl ?_
    refine xcst 26 (0) ⟨u284, _, rfl⟩ rfl (by decide) (fun z25 h25 => ?_)
    refine xist2 28 ⟨u284, _, rfl⟩ rfl rfl ?_
    exact l284 (by omega) (by omega) (by omega) hrec hR 15 _ _ hp0 hH hP (bFr.refl _ _) (fun i _ => rfl) (by omega) (by omega)
  · refine xcst 11 (1) ⟨u284, _, rfl⟩ rfl (by decide) (fun z10 h10 => ?_)
    exact xret ⟨u284, _, rfl⟩ rfl (hR _ hp0 hH hP (bFr.refl _ _) (fun i _ => rfl))
theorem k_comp : ∀ (D : Nat) {hp0 : amH} {R : xQ}, bHk 84 bTT hp0 → P0 hp0 → unc hp0 ≤ D → (∀ (z : Int32) hp1, bHk 84 bTT hp1 → P0 hp1 → bFr [(67, 999)] hp0 hp1 → (∀ i, i < 229 → rN hp1 67 i = rN hp0 67 i) → R (.inl (some (.int z))) hp1) → xK (D + 6) 284 [.ref 66] hp0 R
  | 0, hp0, R, hH, hP, hu, hR => k_comp0 hH hP (fun hp1 _ _ h => by omega) hR
  | D + 1, hp0, R, hH, hP, hu, hR => k_comp0 (d := D + 1) hH hP (fun hp1 h1 h2 h3 R1 h4 => k_comp D h1 h2 (by omega) h4) hR
theorem k_unm {d : Nat} {hp : amH} {R : xQ} (hH : bHk 84 bTT hp) (hP : P0 hp) (hR : ∀ (z : Int32) hp1, bHk 84 bTT hp1 → P0 hp1 → bFr [(66, 12), (72, 999), (73, 999), (74, 999), (75, 999)] hp hp1 → R (.inl (some (.int z))) hp1) : xK (d + 3) 215 [.ref 66] hp R :=
  xsem1 (bQ6_s bf_9 (List.mem_of_getElem? (i := 124) rfl)) (Nat.le_add_left 3 d) hH hP ⟨a66, trivial⟩ (noF hp) rfl rfl (fun z hp1 h1 h2 h3 _ _ => hR z hp1 h1 h2 h3)
