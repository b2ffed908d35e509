/-! ===== the reference lists its triples ===== -/
/-- the triples listed up to the pair n: how many, their points, their sets -/
def rlN (hp : amH) (T : sT) (n : Nat) : Prop := rN hp 66 12 = (((trL T n).length : Nat) : Int) ∧ ∀ t, t < (trL T n).length → rN hp 72 t = (((trL T n).getD t 0 / 15 : Nat) : Int) ∧ rN hp 73 t = (((trL T n).getD t 0 % 15 : Nat) : Int) ∧ rN hp 74 t = T ((trL T n).getD t 0 / 15) ((trL T n).getD t 0 % 15) ∧ rN hp 75 t = ((mk3 T ((trL T n).getD t 0) : Nat) : Int)
theorem gd_app {L : List Nat} {n t : Nat} (ht : t < L.length) : (L ++ [n]).getD t 0 = L.getD t 0 := by
  rw [List.getD_eq_getElem?_getD, List.getD_eq_getElem?_getD, List.getElem?_append_left ht]
theorem gd_end {L : List Nat} {n : Nat} : (L ++ [n]).getD L.length 0 = n := by
  rw [List.getD_eq_getElem?_getD, List.getElem?_append_right (Nat.le_refl _), Nat.sub_self]; rfl
theorem m211i {d : Nat} {hp0 : amH} {R : xQ} {V x : Nat} {T : sT} {a : Int32} (ha : a.toInt = (x : Int)) (hx : x < V)
    (hQ : ∀ hp (y : Int32) (w : Option Value), bHk 84 bTT hp → bFr bLT hp0 hp → rdOk hp V T → rlN hp T (15 * (x + 1)) → xV (d + 1) am_m211 108 [some (.ref 66), some (.int a), some (.int y), w] [] hp R) :
    ∀ (jj y : Nat) (b : Int32) (hp : amH) (w : Option Value), bHk 84 bTT hp → bFr bLT hp0 hp → rdOk hp V T → rlN hp T (15 * x + y) → b.toInt = (y : Int) → x < y → y + jj = V → xV (d + 1) am_m211 19 [some (.ref 66), some (.int a), some (.int b), w] [] hp R := by
  intro jj
  induction jj with
  | zero =>
    intro y b hp w hH hF hB hL hb hxy hj
    have hV := hB.2.1.2.1
    have bV := hB.1
    refine xild 20 ⟨u211, _, rfl⟩ rfl rfl ?_
    refine xald 21 ⟨u211, _, rfl⟩ rfl rfl ?_
    refine xcall 24 [.ref 66] [.int _] hH ⟨u211, _, rfl⟩ rfl rfl rfl rfl rfl (k_points hH (fun z21 h21 => ⟨_, rfl, ?_⟩))
    refine xcmp_ge 27 ⟨u211, _, rfl⟩ rfl (fun c24 => ?_) (fun c24 => ?_)
    · have e : trL T (15 * (x + 1)) = trL T (15 * x + y) := trL_no (by omega) (fun k k1 k2 => decide_eq_false (fun z => by
        rw [show k / 15 = x by omega] at z
        rcases hB.2.1.2.2 x (k % 15) with g | ⟨c, g1, g2, g3, -⟩ <;> omega))
      refine hQ hp b w hH hF hB ?_
      unfold rlN
      rw [e]
      exact hL
    · omega
  | succ jj ih =>
    intro y b hp w hH hF hB hL hb hxy hj
    have hV := hB.2.1.2.1
    have bV := hB.1
    have hTT := hB.2.2.1 x y (by omega) (by omega)
    refine xild 20 ⟨u211, _, rfl⟩ rfl rfl ?_
    refine xald 21 ⟨u211, _, rfl⟩ rfl rfl ?_
    refine xcall 24 [.ref 66] [.int _] hH ⟨u211, _, rfl⟩ rfl rfl rfl rfl rfl (k_points hH (fun z21 h21 => ⟨_, rfl, ?_⟩))
    refine xcmp_ge 27 ⟨u211, _, rfl⟩ rfl (fun c24 => ?_) (fun c24 => ?_)
    · omega
    · refine xald 28 ⟨u211, _, rfl⟩ rfl rfl ?_
      refine xild 29 ⟨u211, _, rfl⟩ rfl rfl ?_
      refine xild 30 ⟨u211, _, rfl⟩ rfl rfl ?_
      refine xcall 33 [.ref 66, .int _, .int _] [] hH ⟨u211, _, rfl⟩ rfl rfl rfl rfl rfl (k_third hH (by omega) (by omega) (by omega) (by omega) (fun z30 h30 => ⟨_, rfl, ?_⟩))
      rw [show a.toInt.toNat = x by omega, show b.toInt.toNat = y by omega, hTT] at h30
      refine xist 34 ⟨u211, _, rfl⟩ rfl rfl ?_
      refine xild 35 ⟨u211, _, rfl⟩ rfl rfl ?_
      refine xild 36 ⟨u211, _, rfl⟩ rfl rfl ?_
      refine xcmp_ge 39 ⟨u211, _, rfl⟩ rfl (fun c36 => ?_) (fun c36 => ?_)
      · have hlt : (y : Int) < T x y := by
          rcases hB.2.1.2.2 x y with g | ⟨c, g1, g2, g3, g4, g5, g6, g7, -⟩ <;> omega
        obtain ⟨c, ec, c1, c2, c3, -⟩ := sOk_at hB.2.1 (rfl : T x y = _) (by omega)
        have tb : trB T (15 * x + y) = true := decide_eq_true (by rw [show (15 * x + y) / 15 = x by omega, show (15 * x + y) % 15 = y by omega]; omega)
        have eL := trL_add tb
        have l35 := trL_35 hB.2.1 (15 * x + y + 1)
        rw [eL, List.length_append, List.length_singleton] at l35
        obtain ⟨L1, L2⟩ := id hL
        have hm := m3_lt (x := x) (y := y) (z := c) (by omega) (by omega) (by omega)
        refine xald 43 ⟨u211, _, rfl⟩ rfl rfl ?_
        refine xgetR 46 72 hH ⟨u211, _, rfl⟩ rfl rfl ?_
        refine xald 47 ⟨u211, _, rfl⟩ rfl rfl ?_
        refine xgetI 50 hH ⟨u211, _, rfl⟩ rfl rfl (fun z47 h47 => ?_)
        refine xild 51 ⟨u211, _, rfl⟩ rfl rfl ?_
        refine xiast 52 (z47).toInt.toNat hH ⟨u211, _, rfl⟩ rfl (by decide) rfl (by omega) (by omega) (by omega) (by omega) (fun hp51 hH51 U51 => ?_)
        have s51 := U51.1
        have n51_66_12 : rN hp51 (66) 12 = rN hp (66) 12 := rU_ne U51 (by omega)
        refine xald 53 ⟨u211, _, rfl⟩ rfl rfl ?_
        refine xgetR 56 73 hH51 ⟨u211, _, rfl⟩ rfl rfl ?_
        refine xald 57 ⟨u211, _, rfl⟩ rfl rfl ?_
        refine xgetI 60 hH51 ⟨u211, _, rfl⟩ rfl rfl (fun z57 h57 => ?_)
        refine xild 61 ⟨u211, _, rfl⟩ rfl rfl ?_
        refine xiast 62 (z57).toInt.toNat hH51 ⟨u211, _, rfl⟩ rfl (by decide) rfl (by omega) (by omega) (by omega) (by omega) (fun hp61 hH61 U61 => ?_)
        have s61 := U61.1
        have n61_66_12 : rN hp61 (66) 12 = rN hp51 (66) 12 := rU_ne U61 (by omega)
        refine xald 63 ⟨u211, _, rfl⟩ rfl rfl ?_
        refine xgetR 66 74 hH61 ⟨u211, _, rfl⟩ rfl rfl ?_
        refine xald 67 ⟨u211, _, rfl⟩ rfl rfl ?_
        refine xgetI 70 hH61 ⟨u211, _, rfl⟩ rfl rfl (fun z67 h67 => ?_)
        refine xild 71 ⟨u211, _, rfl⟩ rfl rfl ?_
        refine xiast 72 (z67).toInt.toNat hH61 ⟨u211, _, rfl⟩ rfl (by decide) rfl (by omega) (by omega) (by omega) (by omega) (fun hp71 hH71 U71 => ?_)
        have s71 := U71.1
        have n71_66_12 : rN hp71 (66) 12 = rN hp61 (66) 12 := rU_ne U71 (by omega)
        refine xald 73 ⟨u211, _, rfl⟩ rfl rfl ?_
        refine xgetR 76 75 hH71 ⟨u211, _, rfl⟩ rfl rfl ?_
        refine xald 77 ⟨u211, _, rfl⟩ rfl rfl ?_
        refine xgetI 80 hH71 ⟨u211, _, rfl⟩ rfl rfl (fun z77 h77 => ?_)
        refine xcst 81 (1) ⟨u211, _, rfl⟩ rfl (by decide) (fun z80 h80 => ?_)
        refine xild 82 ⟨u211, _, rfl⟩ rfl rfl ?_
        refine xshl 83 ⟨u211, _, rfl⟩ rfl ?_
        refine xcst 84 (1) ⟨u211, _, rfl⟩ rfl (by decide) (fun z83 h83 => ?_)
        refine xild 85 ⟨u211, _, rfl⟩ rfl rfl ?_
        refine xshl 86 ⟨u211, _, rfl⟩ rfl ?_
        refine xor_ 87 ⟨u211, _, rfl⟩ rfl ?_
        refine xcst 88 (1) ⟨u211, _, rfl⟩ rfl (by decide) (fun z87 h87 => ?_)
        refine xild 89 ⟨u211, _, rfl⟩ rfl rfl ?_
        refine xshl 90 ⟨u211, _, rfl⟩ rfl ?_
        refine xor_ 91 ⟨u211, _, rfl⟩ rfl ?_
        have e1 := i_shl h80 ha (by omega)
        have e2 := i_shl h83 hb (by omega)
        have e3 := i_or e1.1 e2.1 e1.2 e2.2
        have e4 := i_shl h87 (show z30.toInt = (c : Int) by omega) (by omega)
        have e5 := i_or e3.1 e4.1 e3.2 e4.2
        have eM : ((z80 <<< (a &&& 31) ||| z83 <<< (b &&& 31)) ||| z87 <<< (z30 &&& 31)).toInt = ((m3 x y c : Nat) : Int) := e5.1
        refine xiast 92 (z77).toInt.toNat hH71 ⟨u211, _, rfl⟩ rfl (by decide) rfl (by omega) (by omega) (by omega) (by omega) (fun hp91 hH91 U91 => ?_)
        have s91 := U91.1
        have n91_66_12 : rN hp91 (66) 12 = rN hp71 (66) 12 := rU_ne U91 (by omega)
        refine xald 93 ⟨u211, _, rfl⟩ rfl rfl ?_
        refine xdup 94 ⟨u211, _, rfl⟩ rfl rfl ?_
        refine xgetI 97 hH91 ⟨u211, _, rfl⟩ rfl rfl (fun z94 h94 => ?_)
        refine xcst 98 (1) ⟨u211, _, rfl⟩ rfl (by decide) (fun z97 h97 => ?_)
        refine xadd 99 _ ⟨u211, _, rfl⟩ rfl rfl (by omega) (by omega) (fun z98 h98 => ?_)
        refine xputI 102 hH91 ⟨u211, _, rfl⟩ rfl rfl ⟨rfl, rfl⟩ (by omega) (by omega) (fun hp99 hH99 U99 => ?_)
        have s99 := U99.1
        refine xinc 105 (1) ⟨u211, _, rfl⟩ rfl rfl rfl (by decide) (by omega) (by omega) (fun z102 h102 => ?_)
        refine xgoto ⟨u211, _, rfl⟩ ?_
        have s99 := U99.1
        have u51 := U51.1
        have u61 := U61.1
        have u71 := U71.1
        have u91 := U91.1
        refine ih (y + 1) _ hp99 _ hH99 (hF.trans (((((rU_fr U51 (bIn_all (by decide) _)).trans (rU_fr U61 (bIn_all (by decide) _))).trans (rU_fr U71 (bIn_all (by decide) _))).trans (rU_fr U91 (bIn_all (by decide) _))).trans (rU_fr U99 (by decide)))) (rdOk_fr hB (fun i => by rw [rU_ne U99 (by omega), rU_ne U91 (by omega), rU_ne U71 (by omega), rU_ne U61 (by omega), rU_ne U51 (by omega)])) ?_ (by omega) (by omega) (by omega)
        rw [show 15 * x + (y + 1) = 15 * x + y + 1 by omega]
        refine ⟨by rw [eL, List.length_append, List.length_singleton]; omega, fun t ht => ?_⟩
        rw [eL, List.length_append, List.length_singleton] at ht
        rw [eL, rU_ne U99 (by omega), rU_ne U99 (by omega), rU_ne U99 (by omega), rU_ne U99 (by omega), rU_ne U91 (by omega), rU_ne U91 (by omega), rU_ne U91 (by omega), rU_ne U71 (by omega), rU_ne U71 (by omega), rU_ne U61 (by omega)]
        by_cases g : t = (trL T (15 * x + y)).length
        · subst g
          rw [gd_end, show (15 * x + y) / 15 = x by omega, show (15 * x + y) % 15 = y by omega]
          refine ⟨?_, ?_, ?_, ?_⟩
          · rw [show (trL T (15 * x + y)).length = z47.toInt.toNat by omega]; omega
          · rw [show (trL T (15 * x + y)).length = z57.toInt.toNat by omega]; omega
          · rw [show (trL T (15 * x + y)).length = z67.toInt.toNat by omega]; omega
          · rw [show (trL T (15 * x + y)).length = z77.toInt.toNat by omega, u91, eM]
            unfold mk3
            rw [show (15 * x + y) / 15 = x by omega, show (15 * x + y) % 15 = y by omega, ec, Int.toNat_natCast]
        · rw [gd_app (by omega), rU_ne U51 (by omega), rU_ne U61 (by omega), rU_ne U71 (by omega), rU_ne U91 (by omega)]
          have := L2 t (by omega)
          rw [rU_ne U71 (by omega), rU_ne U61 (by omega), rU_ne U61 (by omega), rU_ne U51 (by omega), rU_ne U51 (by omega), rU_ne U51 (by omega)]
          exact this
      · refine xgoto ⟨u211, _, rfl⟩ ?_
        refine xinc 105 (1) ⟨u211, _, rfl⟩ rfl rfl rfl (by decide) (by omega) (by omega) (fun z102 h102 => ?_)
        refine xgoto ⟨u211, _, rfl⟩ ?_
        have e : trL T (15 * x + (y + 1)) = trL T (15 * x + y) := trL_no (by omega) (fun k k1 k2 => decide_eq_false (fun z => by
          rw [show k / 15 = x by omega, show k % 15 = y by omega] at z
          omega))
        exact ih (y + 1) _ hp _ hH hF hB (by unfold rlN; rw [e]; exact hL) (by omega) (by omega) (by omega)
theorem m211o {d : Nat} {hp0 : amH} {R : xQ} {V : Nat} {T : sT} (hR : ∀ hp1, bHk 84 bTT hp1 → bFr bLT hp0 hp1 → rdOk hp1 V T → rlN hp1 T 225 → R (.inl none) hp1) :
    ∀ (jj x : Nat) (a : Int32) (hp : amH) (v w : Option Value), bHk 84 bTT hp → bFr bLT hp0 hp → rdOk hp V T → rlN hp T (15 * x) → a.toInt = (x : Int) → x + jj = V → xV (d + 1) am_m211 7 [some (.ref 66), some (.int a), v, w] [] hp R := by
  intro jj
  induction jj with
  | zero =>
    intro x a hp v w hH hF hB hL ha hj
    have hV := hB.2.1.2.1
    have bV := hB.1
    refine xild 8 ⟨u211, _, rfl⟩ rfl rfl ?_
    refine xald 9 ⟨u211, _, rfl⟩ rfl rfl ?_
    refine xcall 12 [.ref 66] [.int _] hH ⟨u211, _, rfl⟩ rfl rfl rfl rfl rfl (k_points hH (fun z9 h9 => ⟨_, rfl, ?_⟩))
    refine xcmp_ge 15 ⟨u211, _, rfl⟩ rfl (fun c12 => ?_) (fun c12 => ?_)
    · have e : trL T 225 = trL T (15 * x) := trL_no (by omega) (fun k k1 k2 => decide_eq_false (fun z => by
        rcases hB.2.1.2.2 (k / 15) (k % 15) with g | ⟨c, g1, g2, g3, -⟩ <;> omega))
      exact xretV ⟨u211, _, rfl⟩ rfl (hR hp hH hF hB (by unfold rlN; rw [e]; exact hL))
    · omega
  | succ jj ih =>
    intro x a hp v w hH hF hB hL ha hj
    have hV := hB.2.1.2.1
    have bV := hB.1
    refine xild 8 ⟨u211, _, rfl⟩ rfl rfl ?_
    refine xald 9 ⟨u211, _, rfl⟩ rfl rfl ?_
    refine xcall 12 [.ref 66] [.int _] hH ⟨u211, _, rfl⟩ rfl rfl rfl rfl rfl (k_points hH (fun z9 h9 => ⟨_, rfl, ?_⟩))
    refine xcmp_ge 15 ⟨u211, _, rfl⟩ rfl (fun c12 => ?_) (fun c12 => ?_)
    · omega
    · refine xild 16 ⟨u211, _, rfl⟩ rfl rfl ?_
      refine xcst 17 (1) ⟨u211, _, rfl⟩ rfl (by decide) (fun z16 h16 => ?_)
      refine xadd 18 _ ⟨u211, _, rfl⟩ rfl rfl (by omega) (by omega) (fun z17 h17 => ?_)
      refine xist 19 ⟨u211, _, rfl⟩ rfl rfl ?_
      have e : trL T (15 * x + (x + 1)) = trL T (15 * x) := trL_no (by omega) (fun k k1 k2 => decide_eq_false (fun z => by
        rw [show k / 15 = x by omega] at z
        omega))
      refine m211i ha (by omega) (fun hp1 y1 w1 g1 g2 g3 g4 => ?_) (V - (x + 1)) (x + 1) _ hp w hH hF hB (by unfold rlN; rw [e]; exact hL) (by omega) (by omega) (by omega)
      refine xinc 111 (1) ⟨u211, _, rfl⟩ rfl rfl rfl (by decide) (by omega) (by omega) (fun z108 h108 => ?_)
      refine xgoto ⟨u211, _, rfl⟩ ?_
      exact ih (x + 1) _ hp1 _ _ g1 g2 g3 g4 (by omega) (by omega)
theorem k_rlst {d : Nat} {hp : amH} {R : xQ} {V : Nat} {T : sT} (hH : bHk 84 bTT hp) (hB : rdOk hp V T) (hR : ∀ hp1, bHk 84 bTT hp1 → bFr bLT hp hp1 → rdOk hp1 V T → rlN hp1 T 225 → R (.inl none) hp1) : xK (d + 1) 211 [.ref 66] hp R := by
  have bV := hB.1
  have hV := hB.2.1.2.1
  refine xin (M := am_m211) rfl rfl rfl ?_
  refine xald 1 ⟨u211, _, rfl⟩ rfl rfl ?_
  refine xcst 2 (0) ⟨u211, _, rfl⟩ rfl (by decide) (fun z1 h1 => ?_)
  refine xputI 5 hH ⟨u211, _, rfl⟩ rfl rfl ⟨rfl, rfl⟩ (by omega) (by omega) (fun hp2 hH2 U2 => ?_)
  have s2 := U2.1
  refine xcst 6 (0) ⟨u211, _, rfl⟩ rfl (by decide) (fun z5 h5 => ?_)
  refine xist 7 ⟨u211, _, rfl⟩ rfl rfl ?_
  refine xpad 2 ?_
  exact m211o hR V 0 _ hp2 _ _ hH2 (rU_fr U2 (by decide)) (rdOk_fr hB (fun i => rU_ne U2 (by omega))) ⟨by rw [s2]; exact h1, fun t ht => absurd ht (Nat.not_lt_zero t)⟩ (by omega) (by omega)
/-- how many triples there are -/
theorem k_rtm {d : Nat} {hp : amH} {R : xQ} {V : Nat} {T : sT} (hH : bHk 84 bTT hp) (hB : rdOk hp V T) (hR : ∀ (z : Int32) hp1, bHk 84 bTT hp1 → bFr bLT hp hp1 → rdOk hp1 V T → rlN hp1 T 225 → z.toInt = (((trL T 225).length : Nat) : Int) → R (.inl (some (.int z))) hp1) : xK (d + 2) 213 [.ref 66] hp R := by
  refine xin (M := am_m213) rfl rfl rfl ?_
  refine xald 1 ⟨u213, _, rfl⟩ rfl rfl ?_
  refine xcall 4 [.ref 66] [] hH ⟨u213, _, rfl⟩ rfl rfl rfl rfl rfl (k_rlst hH hB (fun hp1 hH1 F1 B1 L1 => ⟨_, rfl, ?_⟩))
  refine xald 5 ⟨u213, _, rfl⟩ rfl rfl ?_
  refine xgetI 8 hH1 ⟨u213, _, rfl⟩ rfl rfl (fun z5 h5 => ?_)
  exact xret ⟨u213, _, rfl⟩ rfl (hR _ hp1 hH1 F1 B1 L1 (by rw [h5]; exact L1.1))
