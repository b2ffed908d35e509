/-! ===== ways by hand: laysTriples once more: all triples, in order ===== -/
def b3 (x y z : Nat) : Int := ((2 ^ x + 2 ^ y + 2 ^ z : Nat) : Int)
theorem msk_b3 : ∀ x y z : Fin 15, x < y → y < z → (msk (Int32.ofNat x) (Int32.ofNat y) (Int32.ofNat z)).toInt = b3 x y z ∧ 0 ≤ b3 x y z ∧ b3 x y z ≤ 32767 := by decide +kernel
def LJ (r : Nat → Int) (hp : amH) (N m : Nat) : Prop := rN hp 66 12 = (m : Int) ∧ (∃ L, gL r N L ∧ L.length = 3 * m) ∧
  (∀ k, k < m → ∃ x y z : Nat, x < y ∧ y < z ∧ z < 15 ∧ r (4 + 15 * x + y) = (z : Int) ∧ rN hp 72 k = (x : Int) ∧ rN hp 73 k = (y : Int) ∧ rN hp 74 k = (z : Int) ∧ rN hp 75 k = b3 x y z ∧ 15 * x + y < N) ∧
  (∀ k l, k < l → l < m → 15 * rN hp 72 k + rN hp 73 k < 15 * rN hp 72 l + rN hp 73 l) ∧
  (∀ x y z : Nat, x < y → y < z → z < 15 → r (4 + 15 * x + y) = (z : Int) → 15 * x + y < N → ∃ k, k < m ∧ rN hp 72 k = (x : Int) ∧ rN hp 73 k = (y : Int) ∧ rN hp 74 k = (z : Int))
theorem LJ_up {r : Nat → Int} {hp : amH} {N N1 m : Nat} (h : LJ r hp N m) (hN : N ≤ N1) (hn : ∀ x y z : Nat, x < y → y < z → z < 15 → r (4 + 15 * x + y) = (z : Int) → 15 * x + y < N1 → 15 * x + y < N) : LJ r hp N1 m := by
  obtain ⟨h1, ⟨L, h2, h3⟩, h4, h5, h6⟩ := h
  refine ⟨h1, ⟨L, gL_mono h2 hN, h3⟩, fun k hk => ?_, h5, fun x y z a b c d e => h6 x y z a b c d (hn x y z a b c d e)⟩
  obtain ⟨x, y, z, g1, g2, g3, g4, g5, g6, g7, g8, g9⟩ := h4 k hk
  exact ⟨x, y, z, g1, g2, g3, g4, g5, g6, g7, g8, by omega⟩
theorem LJ_35 {r : Nat → Int} {hp : amH} {N m : Nat} (h : LJ r hp N m) : m ≤ 35 := by
  obtain ⟨-, ⟨L, h2, h3⟩, -⟩ := h
  have := gL_len h2
  omega
theorem LJ_add {r : Nat → Int} (hV : Vf r) {hp hp1 : amH} {x y z m : Nat} (h : LJ r hp (15 * x + y) m) (hxy : x < y) (hyz : y < z) (hz : z < 15) (e : r (4 + 15 * x + y) = (z : Int)) (k12 : rN hp1 66 12 = ((m + 1 : Nat) : Int)) (k72 : rN hp1 72 m = (x : Int)) (k73 : rN hp1 73 m = (y : Int)) (k74 : rN hp1 74 m = (z : Int)) (k75 : rN hp1 75 m = b3 x y z)
    (hk : ∀ c k, 72 ≤ c → c ≤ 75 → ¬ k = m → rN hp1 c k = rN hp c k) : LJ r hp1 (15 * x + y + 1) (m + 1) := by
  obtain ⟨h1, ⟨L, h2, h3⟩, h4, h5, h6⟩ := h
  have hL2 := gL_add hV h2 hxy hyz hz e (Nat.le_refl _)
  refine ⟨k12, ⟨_, hL2, by simp only [List.length_cons]; omega⟩, fun k hkm => ?_, fun k l hkl hl => ?_, fun a b c g1 g2 g3 g4 g5 => ?_⟩
  · by_cases ek : k = m
    · subst ek
      exact ⟨x, y, z, hxy, hyz, hz, e, k72, k73, k74, k75, by omega⟩
    · obtain ⟨a, b, c, g1, g2, g3, g4, g5, g6, g7, g8, g9⟩ := h4 k (by omega)
      exact ⟨a, b, c, g1, g2, g3, g4, by rw [hk 72 k (by omega) (by omega) ek, g5], by rw [hk 73 k (by omega) (by omega) ek, g6], by rw [hk 74 k (by omega) (by omega) ek, g7], by rw [hk 75 k (by omega) (by omega) ek, g8], by omega⟩
  · rw [hk 72 k (by omega) (by omega) (by omega), hk 73 k (by omega) (by omega) (by omega)]
    by_cases el : l = m
    · subst el
      obtain ⟨a, b, c, g1, g2, g3, g4, g5, g6, g7, g8, g9⟩ := h4 k (by omega)
      omega
    · rw [hk 72 l (by omega) (by omega) el, hk 73 l (by omega) (by omega) el]
      exact h5 k l hkl (by omega)
  · by_cases es : 15 * a + b < 15 * x + y
    · obtain ⟨k, q1, q2, q3, q4⟩ := h6 a b c g1 g2 g3 g4 es
      exact ⟨k, by omega, by rw [hk 72 k (by omega) (by omega) (by omega), q2], by rw [hk 73 k (by omega) (by omega) (by omega), q3], by rw [hk 74 k (by omega) (by omega) (by omega), q4]⟩
    · have ea : a = x := by omega
      have eb : b = y := by omega
      subst ea
      subst eb
      have ec : c = z := by omega
      subst ec
      exact ⟨m, by omega, k72, k73, k74⟩
theorem u211 : bUp 0 am_m211.1 = true := by decide +kernel
theorem lj_42 {d : Nat} {r : Nat → Int} (hV : Vf r) {hp0 hp : amH} {R : xQ} {a b c : Int32} {x y z m : Nat} (hH : bHk 84 bTT hp) (hF : bFr bLT hp0 hp) (hI : LJ r hp (15 * x + y) m) (hxy : x < y) (hyz : y < z) (hz : z < 15) (e : r (4 + 15 * x + y) = (z : Int)) (ha : a.toInt = (x : Int)) (hb : b.toInt = (y : Int)) (hc : c.toInt = (z : Int))
    (hw : ∀ (hp1 : amH) (b1 : Int32), bHk 84 bTT hp1 → bFr bLT hp0 hp1 → LJ r hp1 (15 * x + y + 1) (m + 1) → b1.toInt = ((y + 1 : Nat) : Int) → xV (d + 1) am_m211 19 [some (.ref 66), some (.int a), some (.int b1), some (.int c)] [] hp1 R) :
    xV (d + 1) am_m211 42 [some (.ref 66), some (.int a), some (.int b), some (.int c)] [] hp R := by
  have hm : m ≤ 34 := by
    obtain ⟨-, ⟨L, h2, h3⟩, -⟩ := hI
    have := gL_len (gL_add hV h2 hxy hyz hz e (Nat.le_refl _))
    simp only [List.length_cons] at this
    omega
  have hM := hI.1
  refine xald 43 ⟨u211, _, rfl⟩ rfl rfl ?_
  refine xgetR 46 72 hH ⟨u211, _, rfl⟩ rfl rfl ?_
  refine xald 47 ⟨u211, _, rfl⟩ rfl rfl ?_
  refine xgetI 50 hH ⟨u211, _, rfl⟩ rfl rfl (fun z47 h47 => ?_)
  have o47 : z47.toInt = (m : Int) := by rw [h47, hM]
  refine xild 51 ⟨u211, _, rfl⟩ rfl rfl ?_
  refine xiast 52 m hH ⟨u211, _, rfl⟩ rfl (by decide) rfl (by omega) (by omega) (by omega) (by omega) (fun hp51 hH51 U51 => ?_)
  refine xald 53 ⟨u211, _, rfl⟩ rfl rfl ?_
  refine xgetR 56 73 hH51 ⟨u211, _, rfl⟩ rfl rfl ?_
  refine xald 57 ⟨u211, _, rfl⟩ rfl rfl ?_
  refine xgetI 60 hH51 ⟨u211, _, rfl⟩ rfl rfl (fun z57 h57 => ?_)
  have o57 : z57.toInt = (m : Int) := by rw [h57, rU_ne U51 (by omega), hM]
  refine xild 61 ⟨u211, _, rfl⟩ rfl rfl ?_
  refine xiast 62 m hH51 ⟨u211, _, rfl⟩ rfl (by decide) rfl (by omega) (by omega) (by omega) (by omega) (fun hp61 hH61 U61 => ?_)
  refine xald 63 ⟨u211, _, rfl⟩ rfl rfl ?_
  refine xgetR 66 74 hH61 ⟨u211, _, rfl⟩ rfl rfl ?_
  refine xald 67 ⟨u211, _, rfl⟩ rfl rfl ?_
  refine xgetI 70 hH61 ⟨u211, _, rfl⟩ rfl rfl (fun z67 h67 => ?_)
  have o67 : z67.toInt = (m : Int) := by rw [h67, rU_ne U61 (by omega), rU_ne U51 (by omega), hM]
  refine xild 71 ⟨u211, _, rfl⟩ rfl rfl ?_
  refine xiast 72 m hH61 ⟨u211, _, rfl⟩ rfl (by decide) rfl (by omega) (by omega) (by omega) (by omega) (fun hp71 hH71 U71 => ?_)
  refine xald 73 ⟨u211, _, rfl⟩ rfl rfl ?_
  refine xgetR 76 75 hH71 ⟨u211, _, rfl⟩ rfl rfl ?_
  refine xald 77 ⟨u211, _, rfl⟩ rfl rfl ?_
  refine xgetI 80 hH71 ⟨u211, _, rfl⟩ rfl rfl (fun z77 h77 => ?_)
  have o77 : z77.toInt = (m : Int) := by rw [h77, rU_ne U71 (by omega), rU_ne U61 (by omega), rU_ne U51 (by omega), hM]
  refine xcst 81 (1) ⟨u211, _, rfl⟩ rfl (by decide) (fun z80 h80 => ?_)
  refine xild 82 ⟨u211, _, rfl⟩ rfl rfl ?_
  refine xshl 83 ⟨u211, _, rfl⟩ rfl ?_
  refine xcst 84 (1) ⟨u211, _, rfl⟩ rfl (by decide) (fun z83 h83 => ?_)
  refine xild 85 ⟨u211, _, rfl⟩ rfl rfl ?_
  refine xshl 86 ⟨u211, _, rfl⟩ rfl ?_
  refine xor_ 87 ⟨u211, _, rfl⟩ rfl ?_
  refine xcst 88 (1) ⟨u211, _, rfl⟩ rfl (by decide) (fun z87 h87 => ?_)
  refine xild 89 ⟨u211, _, rfl⟩ rfl rfl ?_
  refine xshl 90 ⟨u211, _, rfl⟩ rfl ?_
  refine xor_ 91 ⟨u211, _, rfl⟩ rfl ?_
  have m1 : z80 = 1 := x_eq.mpr h80
  have m2 : z83 = 1 := x_eq.mpr h83
  have m3 : z87 = 1 := x_eq.mpr h87
  subst m1
  subst m2
  subst m3
  have hmk := msk_b3 ⟨x, by omega⟩ ⟨y, by omega⟩ ⟨z, by omega⟩ hxy hyz
  dsimp only at hmk
  rw [← i_of ha (by omega), ← i_of hb (by omega), ← i_of hc hz] at hmk
  unfold msk at hmk
  refine xiast 92 m hH71 ⟨u211, _, rfl⟩ rfl (by decide) rfl (by omega) (by omega) (by omega) (by omega) (fun hp91 hH91 U91 => ?_)
  refine xald 93 ⟨u211, _, rfl⟩ rfl rfl ?_
  refine xdup 94 ⟨u211, _, rfl⟩ rfl rfl ?_
  refine xgetI 97 hH91 ⟨u211, _, rfl⟩ rfl rfl (fun z94 h94 => ?_)
  have o94 : z94.toInt = (m : Int) := by rw [h94, rU_ne U91 (by omega), rU_ne U71 (by omega), rU_ne U61 (by omega), rU_ne U51 (by omega), hM]
  refine xcst 98 (1) ⟨u211, _, rfl⟩ rfl (by decide) (fun z97 h97 => ?_)
  refine xadd 99 _ ⟨u211, _, rfl⟩ rfl rfl (by omega) (by omega) (fun z98 h98 => ?_)
  refine xputI 102 hH91 ⟨u211, _, rfl⟩ rfl rfl ⟨rfl, rfl⟩ (by omega) (by omega) (fun hp99 hH99 U99 => ?_)
  refine xinc 105 (1) ⟨u211, _, rfl⟩ rfl rfl rfl (by decide) (by omega) (by omega) (fun z102 h102 => ?_)
  refine xgoto ⟨u211, _, rfl⟩ ?_
  have F99 : bFr bLT hp0 hp99 := hF.trans ((rU_fr U51 (bIn_all (by decide) m)).trans ((rU_fr U61 (bIn_all (by decide) m)).trans ((rU_fr U71 (bIn_all (by decide) m)).trans ((rU_fr U91 (bIn_all (by decide) m)).trans (rU_fr U99 (by decide))))))
  refine hw hp99 z102 hH99 F99 (LJ_add hV hI hxy hyz hz e (by rw [U99.1]; omega) ?_ ?_ ?_ ?_ (fun c k hc1 hc2 hk => ?_)) (by omega)
  · rw [rU_ne U99 (by omega), rU_ne U91 (by omega), rU_ne U71 (by omega), rU_ne U61 (by omega), U51.1, ha]
  · rw [rU_ne U99 (by omega), rU_ne U91 (by omega), rU_ne U71 (by omega), U61.1, hb]
  · rw [rU_ne U99 (by omega), rU_ne U91 (by omega), U71.1, hc]
  · rw [rU_ne U99 (by omega), U91.1, hmk.1]
  · rw [rU_ne U99 (by omega), rU_ne U91 (by omega), rU_ne U71 (by omega), rU_ne U61 (by omega), rU_ne U51 (by omega)]
theorem lj_in {d : Nat} {hp0 : amH} (hV : Vf (rN hp0 67)) {R : xQ} {x : Nat} {a : Int32} (ha : a.toInt = (x : Int))
    (hQ : ∀ (hp : amH) (a1 : Int32) (m : Nat) (v w : Option Value), bHk 84 bTT hp → bFr bLT hp0 hp → LJ (rN hp0 67) hp (15 * x + 15) m → a1.toInt = ((x + 1 : Nat) : Int) → xV (d + 1) am_m211 7 [some (.ref 66), some (.int a1), v, w] [] hp R) :
    ∀ (j : Nat) (y m : Nat) (b : Int32) (v : Option Value) (hp : amH), bHk 84 bTT hp → bFr bLT hp0 hp → LJ (rN hp0 67) hp (15 * x + y) m → y + j = 15 → x < y → b.toInt = (y : Int) → xV (d + 1) am_m211 19 [some (.ref 66), some (.int a), some (.int b), v] [] hp R := by
  intro j
  induction j using Nat.strongRecOn with
  | ind j ih =>
    intro y m b v hp hH hF hI hj hxy hb
    have q1 := hV.1
    have q2 := hV.2.1
    have e0 : rN hp 67 0 = rN hp0 67 0 := r_fr hF rfl
    refine xild 20 ⟨u211, _, rfl⟩ rfl rfl ?_
    refine xald 21 ⟨u211, _, rfl⟩ rfl rfl ?_
    refine xcall 24 [.ref 66] [.int _] hH ⟨u211, _, rfl⟩ rfl rfl rfl rfl rfl (k_points hH (fun z21 h21 => ⟨_, rfl, ?_⟩))
    refine xcmp_ge 27 ⟨u211, _, rfl⟩ rfl (fun c24 => ?_) (fun c24 => ?_)
    · refine xinc 111 (1) ⟨u211, _, rfl⟩ rfl rfl rfl (by decide) (by omega) (by omega) (fun z108 h108 => ?_)
      refine xgoto ⟨u211, _, rfl⟩ ?_
      exact hQ hp z108 m _ _ hH hF (LJ_up hI (by omega) (fun x1 y1 z1 g1 g2 g3 g4 g5 => by
          obtain ⟨k1, k2, -⟩ := Vf_at hV (a := x1) (b := y1) (by omega) (by omega) g4
          omega)) (by omega)
    · refine xald 28 ⟨u211, _, rfl⟩ rfl rfl ?_
      refine xild 29 ⟨u211, _, rfl⟩ rfl rfl ?_
      refine xild 30 ⟨u211, _, rfl⟩ rfl rfl ?_
      refine xcall 33 [.ref 66, .int _, .int _] [] hH ⟨u211, _, rfl⟩ rfl rfl rfl rfl rfl (k_third hH (by omega) (by omega) (by omega) (by omega) (fun z30 h30 => ⟨_, rfl, ?_⟩))
      have eT : tT hp a.toInt.toNat b.toInt.toNat = rN hp0 67 (4 + 15 * x + y) := by
        rw [show a.toInt.toNat = x by omega, show b.toInt.toNat = y by omega]
        exact r_fr hF rfl
      refine xist 34 ⟨u211, _, rfl⟩ rfl rfl ?_
      refine xild 35 ⟨u211, _, rfl⟩ rfl rfl ?_
      refine xild 36 ⟨u211, _, rfl⟩ rfl rfl ?_
      refine xcmp_ge 39 ⟨u211, _, rfl⟩ rfl (fun c36 => ?_) (fun c36 => ?_)
      · rcases hV.2.2 x y (by omega) (by omega) with g | ⟨c, g1, g2, g3, g4, g5, g6, g7, -⟩
        · rw [eT, g] at h30
          omega
        · have hp15 := hV.2.1
          refine lj_42 hV hH hF hI (z := c) hxy (by omega) (by omega) g1 ha hb (by omega) (fun hp1 b1 k1 k2 k3 k4 => ?_)
          exact ih (j - 1) (by omega) (y + 1) (m + 1) _ _ _ k1 k2 k3 (by omega) (by omega) k4
      · refine xgoto ⟨u211, _, rfl⟩ ?_
        refine xinc 105 (1) ⟨u211, _, rfl⟩ rfl rfl rfl (by decide) (by omega) (by omega) (fun z102 h102 => ?_)
        refine xgoto ⟨u211, _, rfl⟩ ?_
        exact ih (j - 1) (by omega) (y + 1) m _ _ _ hH hF (LJ_up hI (by omega) (fun x1 y1 z1 g1 g2 g3 g4 g5 => by
          rcases Nat.lt_or_ge (15 * x1 + y1) (15 * x + y) with q | q
          · exact q
          · have e1 : x1 = x := by omega
            have e2 : y1 = y := by omega
            subst e1
            subst e2
            rw [eT, g4] at h30
            omega)) (by omega) (by omega) (by omega)
theorem lj_out {d : Nat} {hp0 : amH} (hV : Vf (rN hp0 67)) {R : xQ} (hQ : ∀ (hp : amH) (m : Nat), bHk 84 bTT hp → bFr bLT hp0 hp → LJ (rN hp0 67) hp 225 m → R (.inl none) hp) :
    ∀ (j : Nat) (x m : Nat) (a : Int32) (v w : Option Value) (hp : amH), bHk 84 bTT hp → bFr bLT hp0 hp → LJ (rN hp0 67) hp (15 * x) m → x + j = 15 → a.toInt = (x : Int) → xV (d + 1) am_m211 7 [some (.ref 66), some (.int a), v, w] [] hp R := by
  intro j
  induction j using Nat.strongRecOn with
  | ind j ih =>
    intro x m a v w hp hH hF hI hj ha
    have q1 := hV.1
    have q2 := hV.2.1
    have e0 : rN hp 67 0 = rN hp0 67 0 := r_fr hF rfl
    refine xild 8 ⟨u211, _, rfl⟩ rfl rfl ?_
    refine xald 9 ⟨u211, _, rfl⟩ rfl rfl ?_
    refine xcall 12 [.ref 66] [.int _] hH ⟨u211, _, rfl⟩ rfl rfl rfl rfl rfl (k_points hH (fun z9 h9 => ⟨_, rfl, ?_⟩))
    refine xcmp_ge 15 ⟨u211, _, rfl⟩ rfl (fun c12 => ?_) (fun c12 => ?_)
    · refine xretV ⟨u211, _, rfl⟩ rfl (hQ hp m hH hF (LJ_up hI (by omega) (fun x1 y1 z1 g1 g2 g3 g4 g5 => by
        obtain ⟨k1, k2, -⟩ := Vf_at hV (a := x1) (b := y1) (by omega) (by omega) g4
        omega)))
    · refine xild 16 ⟨u211, _, rfl⟩ rfl rfl ?_
      refine xcst 17 (1) ⟨u211, _, rfl⟩ rfl (by decide) (fun z16 h16 => ?_)
      refine xadd 18 _ ⟨u211, _, rfl⟩ rfl rfl (by omega) (by omega) (fun z17 h17 => ?_)
      refine xist 19 ⟨u211, _, rfl⟩ rfl rfl ?_
      refine lj_in hV ha (fun hp1 a1 m1 v1 w1 k1 k2 k3 k4 => ?_) (14 - x) (x + 1) m _ _ _ hH hF (LJ_up hI (by omega) (fun x1 y1 z1 g1 g2 g3 g4 g5 => by omega)) (by omega) (by omega) (by omega)
      exact ih (j - 1) (by omega) (x + 1) m1 _ _ _ _ k1 k2 k3 (by omega) k4
/-- the list of triples is the system's -/
def Lst (hp : amH) (m : Nat) : Prop := rN hp 66 12 = (m : Int) ∧ m ≤ 35 ∧
  (∀ k, k < m → ∃ x y z : Nat, x < y ∧ y < z ∧ z < 15 ∧ tT hp x y = (z : Int) ∧ rN hp 72 k = (x : Int) ∧ rN hp 73 k = (y : Int) ∧ rN hp 74 k = (z : Int) ∧ rN hp 75 k = b3 x y z) ∧
  (∀ k l, k < l → l < m → 15 * rN hp 72 k + rN hp 73 k < 15 * rN hp 72 l + rN hp 73 l) ∧
  (∀ x y z : Nat, x < y → y < z → z < 15 → tT hp x y = (z : Int) → ∃ k, k < m ∧ rN hp 72 k = (x : Int) ∧ rN hp 73 k = (y : Int) ∧ rN hp 74 k = (z : Int))
theorem LJ_Lst {hp0 hp : amH} {m : Nat} (hF : bFr bLT hp0 hp) (h : LJ (rN hp0 67) hp 225 m) : Lst hp m := by
  have h35 := LJ_35 h
  obtain ⟨h1, -, h4, h5, h6⟩ := h
  have e : ∀ i, rN hp 67 i = rN hp0 67 i := fun i => r_fr hF rfl
  refine ⟨h1, h35, fun k hk => ?_, h5, fun x y z g1 g2 g3 g4 => h6 x y z g1 g2 g3 (by rw [← e]; exact g4) (by omega)⟩
  obtain ⟨x, y, z, g1, g2, g3, g4, g5, g6, g7, g8, -⟩ := h4 k hk
  exact ⟨x, y, z, g1, g2, g3, (e _).trans g4, g5, g6, g7, g8⟩
theorem k_lst {d : Nat} {hp : amH} {R : xQ} (hH : bHk 84 bTT hp) (hP : P0 hp) (hR : ∀ (hp1 : amH) (m : Nat), bHk 84 bTT hp1 → P0 hp1 → bFr bLT hp hp1 → Lst hp1 m → R (.inl none) hp1) : xK (d + 1) 211 [.ref 66] hp R := by
  refine xin (M := am_m211) rfl rfl rfl ?_
  refine xald 1 ⟨u211, _, rfl⟩ rfl rfl ?_
  refine xcst 2 (0) ⟨u211, _, rfl⟩ rfl (by decide) (fun z1 h1 => ?_)
  refine xputI 5 hH ⟨u211, _, rfl⟩ rfl rfl ⟨rfl, rfl⟩ (by omega) (by omega) (fun hp2 hH2 U2 => ?_)
  refine xcst 6 (0) ⟨u211, _, rfl⟩ rfl (by decide) (fun z5 h5 => ?_)
  refine xist 7 ⟨u211, _, rfl⟩ rfl rfl ?_
  refine xpad 2 ?_
  refine lj_out hP.1 (fun hp1 m k1 k2 k3 => hR hp1 m k1 (P0_fr hp hp1 (fun c k hc => k2 c k (LT_Pr hc)) hP) k2 (LJ_Lst k2 k3)) 15 0 0 _ _ _ hp2 hH2 (rU_fr U2 (by decide)) ⟨by rw [U2.1, h1]; rfl, ⟨[], gL_nil _ _, rfl⟩, fun k hk => by omega, fun k l _ hl => by omega, fun x y z _ _ _ _ g => by omega⟩ (by omega) (by omega)
