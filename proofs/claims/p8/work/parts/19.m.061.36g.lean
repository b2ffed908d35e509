/-! ===== filling, on both sides ===== -/
/-- the number n stands for a triple of points -/
abbrev fu3 (V n : Nat) : Prop := n / 225 < n / 15 % 15 ∧ n / 15 % 15 < n % 15 ∧ n % 15 < V
/-- all triples numbered below n put that fit: what comes, how many -/
def fuS (V : Nat) (T : sT) : Nat → sT × Nat
  | 0 => (T, 0)
  | n + 1 => if fu3 V n ∧ sFree (fuS V T n).1 (n / 225) (n / 15 % 15) (n % 15) then (sPut (fuS V T n).1 (n / 225) (n / 15 % 15) (n % 15), (fuS V T n).2 + 1) else fuS V T n
theorem fuS_no {V n n1 : Nat} {T : sT} (h : n ≤ n1) (hn : ∀ k, n ≤ k → k < n1 → k / 15 / 15 = k / 225 → ¬ fu3 V k) : fuS V T n1 = fuS V T n := by
  induction n1 with
  | zero => rw [show n = 0 by omega]
  | succ m ih =>
    by_cases e : n = m + 1
    · rw [e]
    · have : fuS V T (m + 1) = fuS V T m := by
        show (if _ then _ else _) = _
        rw [if_neg (fun z => hn m (by omega) (by omega) (by rw [Nat.div_div_eq_div_mul]) z.1)]
      rw [this]
      exact ih (by omega) (fun k k1 k2 => hn k k1 (by omega))
theorem fuS_le (V : Nat) (T : sT) : ∀ n, (fuS V T n).2 ≤ n
  | 0 => Nat.le_refl _
  | n + 1 => by
    have := fuS_le V T n
    show (if fu3 V n ∧ sFree (fuS V T n).1 (n / 225) (n / 15 % 15) (n % 15) then (sPut (fuS V T n).1 (n / 225) (n / 15 % 15) (n % 15), (fuS V T n).2 + 1) else fuS V T n).2 ≤ n + 1
    split
    · exact Nat.succ_le_succ this
    · omega
theorem fuS_at {V x y z : Nat} {T : sT} (hV : V ≤ 15) (h1 : x < y) (h2 : y < z) (h3 : z < V) : (sFree (fuS V T (225 * x + 15 * y + z)).1 x y z → fuS V T (225 * x + 15 * y + z + 1) = (sPut (fuS V T (225 * x + 15 * y + z)).1 x y z, (fuS V T (225 * x + 15 * y + z)).2 + 1)) ∧ (¬ sFree (fuS V T (225 * x + 15 * y + z)).1 x y z → fuS V T (225 * x + 15 * y + z + 1) = fuS V T (225 * x + 15 * y + z)) := by
  have e1 : (225 * x + 15 * y + z) / 225 = x := by omega
  have e2 : (225 * x + 15 * y + z) / 15 % 15 = y := by omega
  have e3 : (225 * x + 15 * y + z) % 15 = z := by omega
  constructor
  · intro h
    show (if _ then _ else _) = _
    rw [if_pos ⟨⟨by omega, by omega, by omega⟩, by rw [e1, e2, e3]; exact h⟩, e1, e2, e3]
  · intro h
    show (if _ then _ else _) = _
    rw [if_neg (fun w => h (by have w2 := w.2; rw [e1, e2, e3] at w2; exact w2))]
theorem u22 : bUp 0 am_m22.1 = true := by decide +kernel
theorem u129 : bUp 0 am_m129.1 = true := by decide +kernel
theorem l22z {d V : Nat} {T : sT} {hp0 : amH} {R : xQ} (hV15 : V ≤ 15) {x y : Nat} {wx wy : Int32} (hwx : wx.toInt = (x : Int)) (hwy : wy.toInt = (y : Int)) (hxy : x < y) (hyV : y < V)
    (hQ : ∀ hp (w : Int32) (v4 : Option Value), bHk 84 bTT hp → bFx [4, 6] hp0 hp → (bdOk hp 3 V (fuS V T (225 * x + 15 * (y + 1))).1) → w.toInt = (((fuS V T (225 * x + 15 * (y + 1))).2 : Nat) : Int) → xV (d + 3) am_m22 72 [some (.ref 3), some (.int w), some (.int wx), some (.int wy), v4] [] hp R) :
    ∀ (jj z : Nat) (wz : Int32) (hp : amH) (w : Int32), wz.toInt = (z : Int) → y < z → z + jj = V → bHk 84 bTT hp → bFx [4, 6] hp0 hp → (bdOk hp 3 V (fuS V T (225 * x + 15 * y + z)).1) → w.toInt = (((fuS V T (225 * x + 15 * y + z)).2 : Nat) : Int) → xV (d + 3) am_m22 29 [some (.ref 3), some (.int w), some (.int wx), some (.int wy), some (.int wz)] [] hp R := by
  intro jj
  induction jj with
  | zero =>
    intro z wz hp w hwz hyz hj hH hF hB hw
    have bV := hB.1
    refine xild2 31 ⟨u22, _, rfl⟩ rfl rfl ?_
    refine xald 32 ⟨u22, _, rfl⟩ rfl rfl ?_
    refine xgetC 35 hH ⟨u22, _, rfl⟩ rfl (by decide) (by decide) rfl rfl (by decide) (fun z32 h32 => ?_)
    refine xcmp_ge 38 ⟨u22, _, rfl⟩ rfl (fun c35 => ?_) (fun c35 => ?_)
    · exact hQ hp _ _ hH hF (by rw [fuS_no (T := T) (V := V) (n := 225 * x + 15 * y + z) (n1 := 225 * x + 15 * (y + 1)) (by omega) (fun k k1 k2 k3 => by omega)]; exact hB) (by rw [fuS_no (T := T) (V := V) (n := 225 * x + 15 * y + z) (n1 := 225 * x + 15 * (y + 1)) (by omega) (fun k k1 k2 k3 => by omega)]; exact hw)
    · omega
  | succ jj ih =>
    intro z wz hp w hwz hyz hj hH hF hB hw
    have bV := hB.1
    obtain ⟨f1, f2⟩ := fuS_at (T := T) hV15 hxy hyz (show z < V by omega)
    have cl := fuS_le V T (225 * x + 15 * y + z)
    refine xild2 31 ⟨u22, _, rfl⟩ rfl rfl ?_
    refine xald 32 ⟨u22, _, rfl⟩ rfl rfl ?_
    refine xgetC 35 hH ⟨u22, _, rfl⟩ rfl (by decide) (by decide) rfl rfl (by decide) (fun z32 h32 => ?_)
    refine xcmp_ge 38 ⟨u22, _, rfl⟩ rfl (fun c35 => ?_) (fun c35 => ?_)
    · omega
    · refine xald 39 ⟨u22, _, rfl⟩ rfl rfl ?_
      refine xild 40 ⟨u22, _, rfl⟩ rfl rfl ?_
      refine xild 41 ⟨u22, _, rfl⟩ rfl rfl ?_
      refine xild2 43 ⟨u22, _, rfl⟩ rfl rfl ?_
      refine xcallS 46 [.int _, .int _, .int _] [.ref 3] hH ⟨u22, _, rfl⟩ rfl rfl rfl rfl rfl (k_three (x := x) (y := y) (z := z) (by omega) (by omega) (by omega) (by omega) (by omega) (by omega) (fun z43 h43 => ⟨_, rfl, ?_⟩))
      refine xcallC 49 (o := 3) [.int _] [] hH ⟨u22, _, rfl⟩ rfl rfl (by decide) rfl (by decide) rfl ⟨rfl, rfl, rfl, rfl⟩ rfl (k_tak (o := 3) (Or.inl rfl) hH hB (x := x) (y := y) (z := z) h43 hxy hyz (by omega) (fun z46 h46 => ⟨_, rfl, ?_⟩))
      refine xif_eq 52 ⟨u22, _, rfl⟩ rfl (fun c49 => ?_) (fun c49 => ?_)
      · refine xinc 69 (1) ⟨u22, _, rfl⟩ rfl rfl rfl (by decide) (by omega) (by omega) (fun z66 h66 => ?_)
        refine xgoto ⟨u22, _, rfl⟩ ?_
        have nf : ¬ sFree (fuS V T (225 * x + 15 * y + z)).1 x y z := by omega
        exact ih (z + 1) _ hp _ (by omega) (by omega) (by omega) hH hF (by rw [show 225 * x + 15 * y + (z + 1) = 225 * x + 15 * y + z + 1 by omega, f2 nf]; exact hB) (by rw [show 225 * x + 15 * y + (z + 1) = 225 * x + 15 * y + z + 1 by omega, f2 nf]; exact hw)
      · refine xald 53 ⟨u22, _, rfl⟩ rfl rfl ?_
        refine xild 54 ⟨u22, _, rfl⟩ rfl rfl ?_
        refine xild 55 ⟨u22, _, rfl⟩ rfl rfl ?_
        refine xild2 57 ⟨u22, _, rfl⟩ rfl rfl ?_
        refine xcallS 60 [.int _, .int _, .int _] [.ref 3] hH ⟨u22, _, rfl⟩ rfl rfl rfl rfl rfl (k_three (x := x) (y := y) (z := z) (by omega) (by omega) (by omega) (by omega) (by omega) (by omega) (fun z57 h57 => ⟨_, rfl, ?_⟩))
        refine xcallC 63 (o := 3) [.int _] [] hH ⟨u22, _, rfl⟩ rfl rfl (by decide) rfl (by decide) rfl ⟨rfl, rfl, rfl, rfl⟩ rfl (k_bput (o := 3) (Or.inl rfl) hH hB (x := x) (y := y) (z := z) h57 hxy hyz (by omega) (by omega) (fun hp60 hH60 F60 B60 => ⟨_, rfl, ?_⟩))
        refine xinc 66 (1) ⟨u22, _, rfl⟩ rfl rfl rfl (by decide) (by omega) (by omega) (fun z63 h63 => ?_)
        refine xinc 69 (1) ⟨u22, _, rfl⟩ rfl rfl rfl (by decide) (by omega) (by omega) (fun z66 h66 => ?_)
        refine xgoto ⟨u22, _, rfl⟩ ?_
        have fr : sFree (fuS V T (225 * x + 15 * y + z)).1 x y z := by omega
        exact ih (z + 1) _ hp60 _ (by omega) (by omega) (by omega) hH60 (hF.trans (F60.mono (by simp))) (by rw [show 225 * x + 15 * y + (z + 1) = 225 * x + 15 * y + z + 1 by omega, f1 fr]; exact B60) (by rw [show 225 * x + 15 * y + (z + 1) = 225 * x + 15 * y + z + 1 by omega, f1 fr]; show _ = (((fuS V T (225 * x + 15 * y + z)).2 + 1 : Nat) : Int); omega)
theorem l22y {d V : Nat} {T : sT} {hp0 : amH} {R : xQ} (hV15 : V ≤ 15) {x : Nat} {wx : Int32} (hwx : wx.toInt = (x : Int)) (hxV : x < V)
    (hQ : ∀ hp (w : Int32) (v3 v4 : Option Value), bHk 84 bTT hp → bFx [4, 6] hp0 hp → (bdOk hp 3 V (fuS V T (225 * (x + 1))).1) → w.toInt = (((fuS V T (225 * (x + 1))).2 : Nat) : Int) → xV (d + 3) am_m22 78 [some (.ref 3), some (.int w), some (.int wx), v3, v4] [] hp R) :
    ∀ (jj y : Nat) (wy : Int32) (hp : amH) (w : Int32) (v4 : Option Value), wy.toInt = (y : Int) → x < y → y + jj = V → bHk 84 bTT hp → bFx [4, 6] hp0 hp → (bdOk hp 3 V (fuS V T (225 * x + 15 * y)).1) → w.toInt = (((fuS V T (225 * x + 15 * y)).2 : Nat) : Int) → xV (d + 3) am_m22 16 [some (.ref 3), some (.int w), some (.int wx), some (.int wy), v4] [] hp R := by
  intro jj
  induction jj with
  | zero =>
    intro y wy hp w v4 hwy hxy hj hH hF hB hw
    have bV := hB.1
    refine xild 17 ⟨u22, _, rfl⟩ rfl rfl ?_
    refine xald 18 ⟨u22, _, rfl⟩ rfl rfl ?_
    refine xgetC 21 hH ⟨u22, _, rfl⟩ rfl (by decide) (by decide) rfl rfl (by decide) (fun z18 h18 => ?_)
    refine xcmp_ge 24 ⟨u22, _, rfl⟩ rfl (fun c21 => ?_) (fun c21 => ?_)
    · exact hQ hp _ _ _ hH hF (by rw [fuS_no (T := T) (V := V) (n := 225 * x + 15 * y) (n1 := 225 * (x + 1)) (by omega) (fun k k1 k2 k3 => by omega)]; exact hB) (by rw [fuS_no (T := T) (V := V) (n := 225 * x + 15 * y) (n1 := 225 * (x + 1)) (by omega) (fun k k1 k2 k3 => by omega)]; exact hw)
    · omega
  | succ jj ih =>
    intro y wy hp w v4 hwy hxy hj hH hF hB hw
    have bV := hB.1
    refine xild 17 ⟨u22, _, rfl⟩ rfl rfl ?_
    refine xald 18 ⟨u22, _, rfl⟩ rfl rfl ?_
    refine xgetC 21 hH ⟨u22, _, rfl⟩ rfl (by decide) (by decide) rfl rfl (by decide) (fun z18 h18 => ?_)
    refine xcmp_ge 24 ⟨u22, _, rfl⟩ rfl (fun c21 => ?_) (fun c21 => ?_)
    · omega
    · refine xild 25 ⟨u22, _, rfl⟩ rfl rfl ?_
      refine xcst 26 (1) ⟨u22, _, rfl⟩ rfl (by decide) (fun z25 h25 => ?_)
      refine xadd 27 _ ⟨u22, _, rfl⟩ rfl rfl (by omega) (by omega) (fun z26 h26 => ?_)
      refine xist2 29 ⟨u22, _, rfl⟩ rfl rfl ?_
      refine l22z hV15 hwx hwy hxy (by omega) (fun hp1 w1 v41 k1 k2 k3 k4 => ?_) (V - (y + 1)) (y + 1) _ hp _ (by omega) (by omega) (by omega) hH hF (by rw [fuS_no (T := T) (V := V) (n := 225 * x + 15 * y) (n1 := 225 * x + 15 * y + (y + 1)) (by omega) (fun k k1 k2 k3 => by omega)]; exact hB) (by rw [fuS_no (T := T) (V := V) (n := 225 * x + 15 * y) (n1 := 225 * x + 15 * y + (y + 1)) (by omega) (fun k k1 k2 k3 => by omega)]; exact hw)
      refine xinc 75 (1) ⟨u22, _, rfl⟩ rfl rfl rfl (by decide) (by omega) (by omega) (fun z72 h72 => ?_)
      refine xgoto ⟨u22, _, rfl⟩ ?_
      exact ih (y + 1) _ hp1 _ _ (by omega) (by omega) (by omega) k1 k2 k3 k4
theorem l22x {d V : Nat} {T : sT} {hp0 : amH} {R : xQ} (hV15 : V ≤ 15) (hR : ∀ (w : Int32) hp, bHk 84 bTT hp → bFx [4, 6] hp0 hp → (bdOk hp 3 V (fuS V T (3375)).1) → w.toInt = (((fuS V T (3375)).2 : Nat) : Int) → R (.inl (some (.int w))) hp) :
    ∀ (jj x : Nat) (wx : Int32) (hp : amH) (w : Int32) (v3 v4 : Option Value), wx.toInt = (x : Int) → x + jj = V → bHk 84 bTT hp → bFx [4, 6] hp0 hp → (bdOk hp 3 V (fuS V T (225 * x)).1) → w.toInt = (((fuS V T (225 * x)).2 : Nat) : Int) → xV (d + 3) am_m22 4 [some (.ref 3), some (.int w), some (.int wx), v3, v4] [] hp R := by
  intro jj
  induction jj with
  | zero =>
    intro x wx hp w v3 v4 hwx hj hH hF hB hw
    have bV := hB.1
    refine xild 5 ⟨u22, _, rfl⟩ rfl rfl ?_
    refine xald 6 ⟨u22, _, rfl⟩ rfl rfl ?_
    refine xgetC 9 hH ⟨u22, _, rfl⟩ rfl (by decide) (by decide) rfl rfl (by decide) (fun z6 h6 => ?_)
    refine xcmp_ge 12 ⟨u22, _, rfl⟩ rfl (fun c9 => ?_) (fun c9 => ?_)
    · refine xild 85 ⟨u22, _, rfl⟩ rfl rfl ?_
      exact xret ⟨u22, _, rfl⟩ rfl (hR _ hp hH hF (by rw [fuS_no (T := T) (V := V) (n := 225 * x) (n1 := 3375) (by omega) (fun k k1 k2 k3 => by omega)]; exact hB) (by rw [fuS_no (T := T) (V := V) (n := 225 * x) (n1 := 3375) (by omega) (fun k k1 k2 k3 => by omega)]; exact hw))
    · omega
  | succ jj ih =>
    intro x wx hp w v3 v4 hwx hj hH hF hB hw
    have bV := hB.1
    refine xild 5 ⟨u22, _, rfl⟩ rfl rfl ?_
    refine xald 6 ⟨u22, _, rfl⟩ rfl rfl ?_
    refine xgetC 9 hH ⟨u22, _, rfl⟩ rfl (by decide) (by decide) rfl rfl (by decide) (fun z6 h6 => ?_)
    refine xcmp_ge 12 ⟨u22, _, rfl⟩ rfl (fun c9 => ?_) (fun c9 => ?_)
    · omega
    · refine xild 13 ⟨u22, _, rfl⟩ rfl rfl ?_
      refine xcst 14 (1) ⟨u22, _, rfl⟩ rfl (by decide) (fun z13 h13 => ?_)
      refine xadd 15 _ ⟨u22, _, rfl⟩ rfl rfl (by omega) (by omega) (fun z14 h14 => ?_)
      refine xist 16 ⟨u22, _, rfl⟩ rfl rfl ?_
      refine l22y hV15 hwx (by omega) (fun hp1 w1 v31 v41 k1 k2 k3 k4 => ?_) (V - (x + 1)) (x + 1) _ hp _ _ (by omega) (by omega) (by omega) hH hF (by rw [fuS_no (T := T) (V := V) (n := 225 * x) (n1 := 225 * x + 15 * (x + 1)) (by omega) (fun k k1 k2 k3 => by omega)]; exact hB) (by rw [fuS_no (T := T) (V := V) (n := 225 * x) (n1 := 225 * x + 15 * (x + 1)) (by omega) (fun k k1 k2 k3 => by omega)]; exact hw)
      refine xinc 81 (1) ⟨u22, _, rfl⟩ rfl rfl rfl (by decide) (by omega) (by omega) (fun z78 h78 => ?_)
      refine xgoto ⟨u22, _, rfl⟩ ?_
      exact ih (x + 1) _ hp1 _ _ _ (by omega) (by omega) k1 k2 k3 k4
theorem l275z {d V n : Nat} {T : sT} {ty : Nat → Int} {h : Nat → sR} {sv : Option sR} {hp0 : amH} {R : xQ} (hV15 : V ≤ 15) {x y : Nat} {wx wy : Int32} (hwx : wx.toInt = (x : Int)) (hwy : wy.toInt = (y : Int)) (hxy : x < y) (hyV : y < V)
    (hQ : ∀ hp (w : Int32) (v4 : Option Value), bHk 84 bTT hp → bFr [(67, 999)] hp0 hp → (P0 hp ∧ rfS hp (V, (fuS V T (225 * x + 15 * (y + 1))).1, ty) n h sv) → w.toInt = (((fuS V T (225 * x + 15 * (y + 1))).2 : Nat) : Int) → xV (d + 4) am_m275 78 [some (.ref 66), some (.int w), some (.int wx), some (.int wy), v4] [] hp R) :
    ∀ (jj z : Nat) (wz : Int32) (hp : amH) (w : Int32), wz.toInt = (z : Int) → y < z → z + jj = V → bHk 84 bTT hp → bFr [(67, 999)] hp0 hp → (P0 hp ∧ rfS hp (V, (fuS V T (225 * x + 15 * y + z)).1, ty) n h sv) → w.toInt = (((fuS V T (225 * x + 15 * y + z)).2 : Nat) : Int) → xV (d + 4) am_m275 38 [some (.ref 66), some (.int w), some (.int wx), some (.int wy), some (.int wz)] [] hp R := by
  intro jj
  induction jj with
  | zero =>
    intro z wz hp w hwz hyz hj hH hF hB hw
    have bV := hB.2.1.1
    refine xild2 40 ⟨u275, _, rfl⟩ rfl rfl ?_
    refine xald 41 ⟨u275, _, rfl⟩ rfl rfl ?_
    refine xcall 44 [.ref 66] [.int _] hH ⟨u275, _, rfl⟩ rfl rfl rfl rfl rfl (k_points hH (fun z41 h41 => ⟨_, rfl, ?_⟩))
    refine xcmp_ge 47 ⟨u275, _, rfl⟩ rfl (fun c44 => ?_) (fun c44 => ?_)
    · exact hQ hp _ _ hH hF (by rw [fuS_no (T := T) (V := V) (n := 225 * x + 15 * y + z) (n1 := 225 * x + 15 * (y + 1)) (by omega) (fun k k1 k2 k3 => by omega)]; exact hB) (by rw [fuS_no (T := T) (V := V) (n := 225 * x + 15 * y + z) (n1 := 225 * x + 15 * (y + 1)) (by omega) (fun k k1 k2 k3 => by omega)]; exact hw)
    · omega
  | succ jj ih =>
    intro z wz hp w hwz hyz hj hH hF hB hw
    have bV := hB.2.1.1
    obtain ⟨f1, f2⟩ := fuS_at (T := T) hV15 hxy hyz (show z < V by omega)
    have cl := fuS_le V T (225 * x + 15 * y + z)
    refine xild2 40 ⟨u275, _, rfl⟩ rfl rfl ?_
    refine xald 41 ⟨u275, _, rfl⟩ rfl rfl ?_
    refine xcall 44 [.ref 66] [.int _] hH ⟨u275, _, rfl⟩ rfl rfl rfl rfl rfl (k_points hH (fun z41 h41 => ⟨_, rfl, ?_⟩))
    refine xcmp_ge 47 ⟨u275, _, rfl⟩ rfl (fun c44 => ?_) (fun c44 => ?_)
    · omega
    · refine xald 48 ⟨u275, _, rfl⟩ rfl rfl ?_
      refine xild 49 ⟨u275, _, rfl⟩ rfl rfl ?_
      refine xild 50 ⟨u275, _, rfl⟩ rfl rfl ?_
      refine xild2 52 ⟨u275, _, rfl⟩ rfl rfl ?_
      refine xcall 55 [.ref 66, .int _, .int _, .int _] [] hH ⟨u275, _, rfl⟩ rfl rfl rfl rfl rfl (k_rfree hH (rowOk_rd hB.2.1) (x := x) (y := y) (z := z) hwx hwy hwz (by show x < V; omega) (by show y < V; omega) (by show z < V; omega) (fun z52 h52 => ⟨_, rfl, ?_⟩))
      have h52 : (z52.toInt = 1 ∧ sFree (fuS V T (225 * x + 15 * y + z)).1 x y z) ∨ (z52.toInt = 0 ∧ ¬ sFree (fuS V T (225 * x + 15 * y + z)).1 x y z) := h52
      refine xif_ne 58 ⟨u275, _, rfl⟩ rfl (fun c55 => ?_) (fun c55 => ?_)
      · refine xald 62 ⟨u275, _, rfl⟩ rfl rfl ?_
        refine xild 63 ⟨u275, _, rfl⟩ rfl rfl ?_
        refine xild 64 ⟨u275, _, rfl⟩ rfl rfl ?_
        refine xild2 66 ⟨u275, _, rfl⟩ rfl rfl ?_
        refine xcall 69 [.ref 66, .int _, .int _, .int _] [] hH ⟨u275, _, rfl⟩ rfl rfl rfl rfl rfl (k_ptR hH hB.1 hB.2.1 (x := x) (y := y) (z := z) hwx hwy hwz (by omega) (by omega) (by omega) (by omega) (by omega) (by omega) (by omega) (fun hp66 hH66 P66 F66 C66 => ⟨_, rfl, ?_⟩))
        have S66 := rfS_67 hB.2 F66 C66
        refine xinc 72 (1) ⟨u275, _, rfl⟩ rfl rfl rfl (by decide) (by omega) (by omega) (fun z69 h69 => ?_)
        refine xinc 75 (1) ⟨u275, _, rfl⟩ rfl rfl rfl (by decide) (by omega) (by omega) (fun z72 h72 => ?_)
        refine xgoto ⟨u275, _, rfl⟩ ?_
        have fr : sFree (fuS V T (225 * x + 15 * y + z)).1 x y z := by omega
        exact ih (z + 1) _ hp66 _ (by omega) (by omega) (by omega) hH66 (hF.trans F66) ⟨P66, by rw [show 225 * x + 15 * y + (z + 1) = 225 * x + 15 * y + z + 1 by omega, f1 fr]; exact S66⟩ (by rw [show 225 * x + 15 * y + (z + 1) = 225 * x + 15 * y + z + 1 by omega, f1 fr]; show _ = (((fuS V T (225 * x + 15 * y + z)).2 + 1 : Nat) : Int); omega)
      · refine xgoto ⟨u275, _, rfl⟩ ?_
        refine xinc 75 (1) ⟨u275, _, rfl⟩ rfl rfl rfl (by decide) (by omega) (by omega) (fun z72 h72 => ?_)
        refine xgoto ⟨u275, _, rfl⟩ ?_
        have nf : ¬ sFree (fuS V T (225 * x + 15 * y + z)).1 x y z := by omega
        exact ih (z + 1) _ hp _ (by omega) (by omega) (by omega) hH hF (by rw [show 225 * x + 15 * y + (z + 1) = 225 * x + 15 * y + z + 1 by omega, f2 nf]; exact hB) (by rw [show 225 * x + 15 * y + (z + 1) = 225 * x + 15 * y + z + 1 by omega, f2 nf]; exact hw)
theorem l275y {d V n : Nat} {T : sT} {ty : Nat → Int} {h : Nat → sR} {sv : Option sR} {hp0 : amH} {R : xQ} (hV15 : V ≤ 15) {x : Nat} {wx : Int32} (hwx : wx.toInt = (x : Int)) (hxV : x < V)
    (hQ : ∀ hp (w : Int32) (v3 v4 : Option Value), bHk 84 bTT hp → bFr [(67, 999)] hp0 hp → (P0 hp ∧ rfS hp (V, (fuS V T (225 * (x + 1))).1, ty) n h sv) → w.toInt = (((fuS V T (225 * (x + 1))).2 : Nat) : Int) → xV (d + 4) am_m275 84 [some (.ref 66), some (.int w), some (.int wx), v3, v4] [] hp R) :
    ∀ (jj y : Nat) (wy : Int32) (hp : amH) (w : Int32) (v4 : Option Value), wy.toInt = (y : Int) → x < y → y + jj = V → bHk 84 bTT hp → bFr [(67, 999)] hp0 hp → (P0 hp ∧ rfS hp (V, (fuS V T (225 * x + 15 * y)).1, ty) n h sv) → w.toInt = (((fuS V T (225 * x + 15 * y)).2 : Nat) : Int) → xV (d + 4) am_m275 25 [some (.ref 66), some (.int w), some (.int wx), some (.int wy), v4] [] hp R := by
  intro jj
  induction jj with
  | zero =>
    intro y wy hp w v4 hwy hxy hj hH hF hB hw
    have bV := hB.2.1.1
    refine xild 26 ⟨u275, _, rfl⟩ rfl rfl ?_
    refine xald 27 ⟨u275, _, rfl⟩ rfl rfl ?_
    refine xcall 30 [.ref 66] [.int _] hH ⟨u275, _, rfl⟩ rfl rfl rfl rfl rfl (k_points hH (fun z27 h27 => ⟨_, rfl, ?_⟩))
    refine xcmp_ge 33 ⟨u275, _, rfl⟩ rfl (fun c30 => ?_) (fun c30 => ?_)
    · exact hQ hp _ _ _ hH hF (by rw [fuS_no (T := T) (V := V) (n := 225 * x + 15 * y) (n1 := 225 * (x + 1)) (by omega) (fun k k1 k2 k3 => by omega)]; exact hB) (by rw [fuS_no (T := T) (V := V) (n := 225 * x + 15 * y) (n1 := 225 * (x + 1)) (by omega) (fun k k1 k2 k3 => by omega)]; exact hw)
    · omega
  | succ jj ih =>
    intro y wy hp w v4 hwy hxy hj hH hF hB hw
    have bV := hB.2.1.1
    refine xild 26 ⟨u275, _, rfl⟩ rfl rfl ?_
    refine xald 27 ⟨u275, _, rfl⟩ rfl rfl ?_
    refine xcall 30 [.ref 66] [.int _] hH ⟨u275, _, rfl⟩ rfl rfl rfl rfl rfl (k_points hH (fun z27 h27 => ⟨_, rfl, ?_⟩))
    refine xcmp_ge 33 ⟨u275, _, rfl⟩ rfl (fun c30 => ?_) (fun c30 => ?_)
    · omega
    · refine xild 34 ⟨u275, _, rfl⟩ rfl rfl ?_
      refine xcst 35 (1) ⟨u275, _, rfl⟩ rfl (by decide) (fun z34 h34 => ?_)
      refine xadd 36 _ ⟨u275, _, rfl⟩ rfl rfl (by omega) (by omega) (fun z35 h35 => ?_)
      refine xist2 38 ⟨u275, _, rfl⟩ rfl rfl ?_
      refine l275z hV15 hwx hwy hxy (by omega) (fun hp1 w1 v41 k1 k2 k3 k4 => ?_) (V - (y + 1)) (y + 1) _ hp _ (by omega) (by omega) (by omega) hH hF (by rw [fuS_no (T := T) (V := V) (n := 225 * x + 15 * y) (n1 := 225 * x + 15 * y + (y + 1)) (by omega) (fun k k1 k2 k3 => by omega)]; exact hB) (by rw [fuS_no (T := T) (V := V) (n := 225 * x + 15 * y) (n1 := 225 * x + 15 * y + (y + 1)) (by omega) (fun k k1 k2 k3 => by omega)]; exact hw)
      refine xinc 81 (1) ⟨u275, _, rfl⟩ rfl rfl rfl (by decide) (by omega) (by omega) (fun z78 h78 => ?_)
      refine xgoto ⟨u275, _, rfl⟩ ?_
      exact ih (y + 1) _ hp1 _ _ (by omega) (by omega) (by omega) k1 k2 k3 k4
theorem l275x {d V n : Nat} {T : sT} {ty : Nat → Int} {h : Nat → sR} {sv : Option sR} {hp0 : amH} {R : xQ} (hV15 : V ≤ 15) (hR : ∀ (w : Int32) hp, bHk 84 bTT hp → bFr [(67, 999)] hp0 hp → (P0 hp ∧ rfS hp (V, (fuS V T (3375)).1, ty) n h sv) → w.toInt = (((fuS V T (3375)).2 : Nat) : Int) → R (.inl (some (.int w))) hp) :
    ∀ (jj x : Nat) (wx : Int32) (hp : amH) (w : Int32) (v3 v4 : Option Value), wx.toInt = (x : Int) → x + jj = V → bHk 84 bTT hp → bFr [(67, 999)] hp0 hp → (P0 hp ∧ rfS hp (V, (fuS V T (225 * x)).1, ty) n h sv) → w.toInt = (((fuS V T (225 * x)).2 : Nat) : Int) → xV (d + 4) am_m275 13 [some (.ref 66), some (.int w), some (.int wx), v3, v4] [] hp R := by
  intro jj
  induction jj with
  | zero =>
    intro x wx hp w v3 v4 hwx hj hH hF hB hw
    have bV := hB.2.1.1
    refine xild 14 ⟨u275, _, rfl⟩ rfl rfl ?_
    refine xald 15 ⟨u275, _, rfl⟩ rfl rfl ?_
    refine xcall 18 [.ref 66] [.int _] hH ⟨u275, _, rfl⟩ rfl rfl rfl rfl rfl (k_points hH (fun z15 h15 => ⟨_, rfl, ?_⟩))
    refine xcmp_ge 21 ⟨u275, _, rfl⟩ rfl (fun c18 => ?_) (fun c18 => ?_)
    · refine xild 91 ⟨u275, _, rfl⟩ rfl rfl ?_
      exact xret ⟨u275, _, rfl⟩ rfl (hR _ hp hH hF (by rw [fuS_no (T := T) (V := V) (n := 225 * x) (n1 := 3375) (by omega) (fun k k1 k2 k3 => by omega)]; exact hB) (by rw [fuS_no (T := T) (V := V) (n := 225 * x) (n1 := 3375) (by omega) (fun k k1 k2 k3 => by omega)]; exact hw))
    · omega
  | succ jj ih =>
    intro x wx hp w v3 v4 hwx hj hH hF hB hw
    have bV := hB.2.1.1
    refine xild 14 ⟨u275, _, rfl⟩ rfl rfl ?_
    refine xald 15 ⟨u275, _, rfl⟩ rfl rfl ?_
    refine xcall 18 [.ref 66] [.int _] hH ⟨u275, _, rfl⟩ rfl rfl rfl rfl rfl (k_points hH (fun z15 h15 => ⟨_, rfl, ?_⟩))
    refine xcmp_ge 21 ⟨u275, _, rfl⟩ rfl (fun c18 => ?_) (fun c18 => ?_)
    · omega
    · refine xild 22 ⟨u275, _, rfl⟩ rfl rfl ?_
      refine xcst 23 (1) ⟨u275, _, rfl⟩ rfl (by decide) (fun z22 h22 => ?_)
      refine xadd 24 _ ⟨u275, _, rfl⟩ rfl rfl (by omega) (by omega) (fun z23 h23 => ?_)
      refine xist 25 ⟨u275, _, rfl⟩ rfl rfl ?_
      refine l275y hV15 hwx (by omega) (fun hp1 w1 v31 v41 k1 k2 k3 k4 => ?_) (V - (x + 1)) (x + 1) _ hp _ _ (by omega) (by omega) (by omega) hH hF (by rw [fuS_no (T := T) (V := V) (n := 225 * x) (n1 := 225 * x + 15 * (x + 1)) (by omega) (fun k k1 k2 k3 => by omega)]; exact hB) (by rw [fuS_no (T := T) (V := V) (n := 225 * x) (n1 := 225 * x + 15 * (x + 1)) (by omega) (fun k k1 k2 k3 => by omega)]; exact hw)
      refine xinc 87 (1) ⟨u275, _, rfl⟩ rfl rfl rfl (by decide) (by omega) (by omega) (fun z84 h84 => ?_)
      refine xgoto ⟨u275, _, rfl⟩ ?_
      exact ih (x + 1) _ hp1 _ _ _ (by omega) (by omega) k1 k2 k3 k4
theorem k_22E {d V : Nat} {T : sT} {hp : amH} {R : xQ} (hH : bHk 84 bTT hp) (hB : bdOk hp 3 V T) (hR : ∀ (w : Int32) hp1, bHk 84 bTT hp1 → bFx [4, 6] hp hp1 → bdOk hp1 3 V (fuS V T 3375).1 → w.toInt = (((fuS V T 3375).2 : Nat) : Int) → R (.inl (some (.int w))) hp1) : xK (d + 3) 22 [.ref 3] hp R := by
  refine xin (M := am_m22) rfl rfl rfl ?_
  refine xcst 1 (0) ⟨u22, _, rfl⟩ rfl (by decide) (fun z0 h0 => ?_)
  refine xist 2 ⟨u22, _, rfl⟩ rfl rfl ?_
  refine xcst 3 (0) ⟨u22, _, rfl⟩ rfl (by decide) (fun z2 h2 => ?_)
  refine xist 4 ⟨u22, _, rfl⟩ rfl rfl ?_
  refine xpad 2 ?_
  exact l22x hB.2.1.2.1 hR V 0 _ hp _ _ _ (by omega) (by omega) hH bFx.refl hB (by rw [h0]; rfl)
theorem k_129E {d V n : Nat} {h : Nat → sR} {sv : Option sR} {T : sT} {ty : Nat → Int} {hp : amH} {R : xQ} (hH : bHk 84 bTT hp) (hS : clS hp (V, T, ty) n h sv)
    (hR : ∀ (z : Int32) hp1, bHk 84 bTT hp1 → cF hp hp1 → clS hp1 (V, (fuS V T 3375).1, ty) (pM n + 1) (pH n h (V, T, ty)) sv → z.toInt = (((fuS V T 3375).2 : Nat) : Int) → R (.inl (some (.int z))) hp1) : xK (d + 6) 129 [.ref 0] hp R := by
  refine xin (M := am_m129) rfl rfl rfl ?_
  refine xald 1 ⟨u129, _, rfl⟩ rfl rfl ?_
  refine xcallC 4 (o := 0) [] [] hH ⟨u129, _, rfl⟩ rfl rfl (by decide) rfl (by decide) rfl ⟨rfl, rfl, rfl, rfl⟩ rfl (k_cmS hH hS (fun hp1 hH1 F1 S1 => ⟨_, rfl, ?_⟩))
  refine xald 5 ⟨u129, _, rfl⟩ rfl rfl ?_
  refine xgetD 8 (3) hH1 ⟨u129, _, rfl⟩ rfl (by decide) (by decide) rfl rfl (by decide) ?_
  refine xcallC 11 (o := 3) [] [] hH1 ⟨u129, _, rfl⟩ rfl rfl (by decide) rfl (by decide) rfl ⟨rfl, rfl, rfl, rfl⟩ rfl (k_22E hH1 (V := V) (T := T) S1.1 (fun z8 hp8 hH8 F8 B8 e8 => ⟨_, rfl, ?_⟩))
  refine xist 12 ⟨u129, _, rfl⟩ rfl rfl ?_
  refine xald 13 ⟨u129, _, rfl⟩ rfl rfl ?_
  refine xcallC 16 (o := 0) [] [] hH8 ⟨u129, _, rfl⟩ rfl rfl (by decide) rfl (by decide) rfl ⟨rfl, rfl, rfl, rfl⟩ rfl (k_stS hH8 (ty := ty) B8 (fun i hi => (bFx_n F8 (by simp)).trans (S1.2.2.2.1 i hi)) (hyC_fr S1.2.2.2.2 (fun c k c1 c2 => F8 c k (by simp; omega))) (fun hp13 hH13 F13 S13 => ⟨_, rfl, ?_⟩))
  refine xild 17 ⟨u129, _, rfl⟩ rfl rfl ?_
  exact xret ⟨u129, _, rfl⟩ rfl (hR _ hp13 hH13 ((cF_hy F1).trans ((cF_x F8 (by simp)).trans (cF_x F13 (by simp)))) S13 e8)
theorem k_275E {d V n : Nat} {h : Nat → sR} {sv : Option sR} {T : sT} {ty : Nat → Int} {hp : amH} {R : xQ} (hH : bHk 84 bTT hp) (hP : P0 hp) (hS : rfS hp (V, T, ty) n h sv)
    (hR : ∀ (z : Int32) hp1, bHk 84 bTT hp1 → P0 hp1 → bFr wM hp hp1 → rfS hp1 (V, (fuS V T 3375).1, ty) (pM n + 1) (pH n h (V, T, ty)) sv → z.toInt = (((fuS V T 3375).2 : Nat) : Int) → R (.inl (some (.int z))) hp1) : xK (d + 4) 275 [.ref 66] hp R := by
  have hV : V ≤ 15 := hS.1.2.1.2.1
  refine xin (M := am_m275) rfl rfl rfl ?_
  refine xald 1 ⟨u275, _, rfl⟩ rfl rfl ?_
  refine xcst 2 (0) ⟨u275, _, rfl⟩ rfl (by decide) (fun z1 h1 => ?_)
  refine xputI 5 hH ⟨u275, _, rfl⟩ rfl rfl ⟨rfl, rfl⟩ (by omega) (by omega) (fun hp2 hH2 U2 => ?_)
  have s2 := U2.1
  refine xald 6 ⟨u275, _, rfl⟩ rfl rfl ?_
  refine xcall 9 [.ref 66] [] hH2 ⟨u275, _, rfl⟩ rfl rfl rfl rfl rfl (k_rmS hH2 (P0_W (W := [(66, 7)]) (by decide) (rU_fr U2 rfl) hP) (rfS_W (W := [(66, 7)]) hS (rU_fr U2 rfl) (fun _ => rfl) rfl rfl (fun _ => rfl) (fun _ => rfl)) (fun hp6 hH6 P6 F6 S6 => ⟨_, rfl, ?_⟩))
  refine xcst 10 (0) ⟨u275, _, rfl⟩ rfl (by decide) (fun z9 h9 => ?_)
  refine xist 11 ⟨u275, _, rfl⟩ rfl rfl ?_
  refine xcst 12 (0) ⟨u275, _, rfl⟩ rfl (by decide) (fun z11 h11 => ?_)
  refine xist 13 ⟨u275, _, rfl⟩ rfl rfl ?_
  refine xpad 2 ?_
  exact l275x (T := T) (ty := ty) (h := pH n h (V, T, ty)) (n := pM n + 1) (sv := sv) hV (fun w hp1 k1 k2 k3 k4 => hR w hp1 k1 k3.1 (((rU_fr U2 (by decide)).trans (bFr_sub F6 (by decide))).trans (bFr_sub k2 (by decide))) k3.2 k4) V 0 _ hp6 _ _ _ (by omega) (by omega) hH6 (bFr.refl _ _) ⟨P6, S6⟩ (by rw [h9]; rfl)
