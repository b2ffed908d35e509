/-! ##### 19.m.027.28c ##### -/
section
/-! ===== the reference lists its triples ===== -/
/-- the triples listed up to the pair n: how many, their points, their sets -/
noncomputable def rlN (hp : amH) (T : sT) (n : Nat) : Prop := rN hp 66 12 = (((trL T n).length : Nat) : Int) ∧ ∀ t, t < (trL T n).length → rN hp 72 t = (((trL T n).getD t 0 / 15 : Nat) : Int) ∧ rN hp 73 t = (((trL T n).getD t 0 % 15 : Nat) : Int) ∧ rN hp 74 t = T ((trL T n).getD t 0 / 15) ((trL T n).getD t 0 % 15) ∧ rN hp 75 t = ((mk3 T ((trL T n).getD t 0) : Nat) : Int)
theorem gd_app {L : List Nat} {n t : Nat} (ht : t < L.length) : (L ++ [n]).getD t 0 = L.getD t 0 := by
  rw [List.getD_eq_getElem?_getD, List.getD_eq_getElem?_getD, List.getElem?_append_left ht]
theorem gd_end {L : List Nat} {n : Nat} : (L ++ [n]).getD L.length 0 = n := by
  rw [List.getD_eq_getElem?_getD, List.getElem?_append_right (Nat.le_refl _), Nat.sub_self]; rfl
theorem m211i {d : Nat} {hp0 : amH} {R : xQ} {V x : Nat} {T : sT} {a : Int32} (ha : a.toInt = (x : Int)) (hx : x < V)
    (hQ : ∀ hp (y : Int32) (w : Option Value), bHk 84 bTT hp → bFr bLT hp0 hp → rdOk hp V T → rlN hp T (15 * (x + 1)) → xV (d + 1) am_m211 108 [some (.ref 66), some (.int a), some (.int y), w] [] hp R) :
    ∀ (jj y : Nat) (b : Int32) (hp : amH) (w : Option Value), bHk 84 bTT hp → bFr bLT hp0 hp → rdOk hp V T → rlN hp T (15 * x + y) → b.toInt = (y : Int) → x < y → y + jj = V → xV (d + 1) am_m211 19 [some (.ref 66), some (.int a), some (.int b), w] [] hp R := by
  intro jj
  induction jj with
  | zero =>
    intro y b hp w hH hF hB hL hb hxy hj
    have hV := hB.2.1.2.1
    have bV := hB.1
    refine xild 20 ⟨u211, _, rfl⟩ rfl rfl ?_
    refine xald 21 ⟨u211, _, rfl⟩ rfl rfl ?_
    refine xcall 24 [.ref 66] [.int _] hH ⟨u211, _, rfl⟩ rfl rfl rfl rfl rfl (k_points hH (fun z21 h21 => ⟨_, rfl, ?_⟩))
    refine xcmp_ge 27 ⟨u211, _, rfl⟩ rfl (fun c24 => ?_) (fun c24 => ?_)
    · have e : trL T (15 * (x + 1)) = trL T (15 * x + y) := trL_no (by omega) (fun k k1 k2 => decide_eq_false (fun z => by
        rw [show k / 15 = x by omega] at z
        rcases hB.2.1.2.2 x (k % 15) with g | ⟨c, g1, g2, g3, -⟩ <;> omega))
      refine hQ hp b w hH hF hB ?_
      unfold rlN
      rw [e]
      exact hL
    · omega
  | succ jj ih =>
    intro y b hp w hH hF hB hL hb hxy hj
    have hV := hB.2.1.2.1
    have bV := hB.1
    have hTT := hB.2.2.1 x y (by omega) (by omega)
    refine xild 20 ⟨u211, _, rfl⟩ rfl rfl ?_
    refine xald 21 ⟨u211, _, rfl⟩ rfl rfl ?_
    refine xcall 24 [.ref 66] [.int _] hH ⟨u211, _, rfl⟩ rfl rfl rfl rfl rfl (k_points hH (fun z21 h21 => ⟨_, rfl, ?_⟩))
    refine xcmp_ge 27 ⟨u211, _, rfl⟩ rfl (fun c24 => ?_) (fun c24 => ?_)
    · omega
    · refine xald 28 ⟨u211, _, rfl⟩ rfl rfl ?_
      refine xild 29 ⟨u211, _, rfl⟩ rfl rfl ?_
      refine xild 30 ⟨u211, _, rfl⟩ rfl rfl ?_
      refine xcall 33 [.ref 66, .int _, .int _] [] hH ⟨u211, _, rfl⟩ rfl rfl rfl rfl rfl (k_third hH (by omega) (by omega) (by omega) (by omega) (fun z30 h30 => ⟨_, rfl, ?_⟩))
      rw [show a.toInt.toNat = x by omega, show b.toInt.toNat = y by omega, hTT] at h30
      refine xist 34 ⟨u211, _, rfl⟩ rfl rfl ?_
      refine xild 35 ⟨u211, _, rfl⟩ rfl rfl ?_
      refine xild 36 ⟨u211, _, rfl⟩ rfl rfl ?_
      refine xcmp_ge 39 ⟨u211, _, rfl⟩ rfl (fun c36 => ?_) (fun c36 => ?_)
      · have hlt : (y : Int) < T x y := by
          rcases hB.2.1.2.2 x y with g | ⟨c, g1, g2, g3, g4, g5, g6, g7, -⟩ <;> omega
        obtain ⟨c, ec, c1, c2, c3, -⟩ := sOk_at hB.2.1 (rfl : T x y = _) (by omega)
        have tb : trB T (15 * x + y) = true := decide_eq_true (by rw [show (15 * x + y) / 15 = x by omega, show (15 * x + y) % 15 = y by omega]; omega)
        have eL := trL_add tb
        have l35 := trL_35 hB.2.1 (15 * x + y + 1)
        rw [eL, List.length_append, List.length_singleton] at l35
        obtain ⟨L1, L2⟩ := id hL
        have hm := m3_lt (x := x) (y := y) (z := c) (by omega) (by omega) (by omega)
        refine xald 43 ⟨u211, _, rfl⟩ rfl rfl ?_
        refine xgetR 46 72 hH ⟨u211, _, rfl⟩ rfl rfl ?_
        refine xald 47 ⟨u211, _, rfl⟩ rfl rfl ?_
        refine xgetI 50 hH ⟨u211, _, rfl⟩ rfl rfl (fun z47 h47 => ?_)
        refine xild 51 ⟨u211, _, rfl⟩ rfl rfl ?_
        refine xiast 52 (z47).toInt.toNat hH ⟨u211, _, rfl⟩ rfl (by decide) rfl (by omega) (by omega) (by omega) (by omega) (fun hp51 hH51 U51 => ?_)
        have s51 := U51.1
        have n51_66_12 : rN hp51 (66) 12 = rN hp (66) 12 := rU_ne U51 (by first | decide | exact (fun z => absurd z.1 (by decide)) | omega)
        refine xald 53 ⟨u211, _, rfl⟩ rfl rfl ?_
        refine xgetR 56 73 hH51 ⟨u211, _, rfl⟩ rfl rfl ?_
        refine xald 57 ⟨u211, _, rfl⟩ rfl rfl ?_
        refine xgetI 60 hH51 ⟨u211, _, rfl⟩ rfl rfl (fun z57 h57 => ?_)
        refine xild 61 ⟨u211, _, rfl⟩ rfl rfl ?_
        refine xiast 62 (z57).toInt.toNat hH51 ⟨u211, _, rfl⟩ rfl (by decide) rfl (by omega) (by omega) (by omega) (by omega) (fun hp61 hH61 U61 => ?_)
        have s61 := U61.1
        have n61_66_12 : rN hp61 (66) 12 = rN hp51 (66) 12 := rU_ne U61 (by first | decide | exact (fun z => absurd z.1 (by decide)) | omega)
        refine xald 63 ⟨u211, _, rfl⟩ rfl rfl ?_
        refine xgetR 66 74 hH61 ⟨u211, _, rfl⟩ rfl rfl ?_
        refine xald 67 ⟨u211, _, rfl⟩ rfl rfl ?_
        refine xgetI 70 hH61 ⟨u211, _, rfl⟩ rfl rfl (fun z67 h67 => ?_)
        refine xild 71 ⟨u211, _, rfl⟩ rfl rfl ?_
        refine xiast 72 (z67).toInt.toNat hH61 ⟨u211, _, rfl⟩ rfl (by decide) rfl (by omega) (by omega) (by omega) (by omega) (fun hp71 hH71 U71 => ?_)
        have s71 := U71.1
        have n71_66_12 : rN hp71 (66) 12 = rN hp61 (66) 12 := rU_ne U71 (by first | decide | exact (fun z => absurd z.1 (by decide)) | omega)
        refine xald 73 ⟨u211, _, rfl⟩ rfl rfl ?_
        refine xgetR 76 75 hH71 ⟨u211, _, rfl⟩ rfl rfl ?_
        refine xald 77 ⟨u211, _, rfl⟩ rfl rfl ?_
        refine xgetI 80 hH71 ⟨u211, _, rfl⟩ rfl rfl (fun z77 h77 => ?_)
        refine xcst 81 (1) ⟨u211, _, rfl⟩ rfl (by decide) (fun z80 h80 => ?_)
        refine xild 82 ⟨u211, _, rfl⟩ rfl rfl ?_
        refine xshl 83 ⟨u211, _, rfl⟩ rfl ?_
        refine xcst 84 (1) ⟨u211, _, rfl⟩ rfl (by decide) (fun z83 h83 => ?_)
        refine xild 85 ⟨u211, _, rfl⟩ rfl rfl ?_
        refine xshl 86 ⟨u211, _, rfl⟩ rfl ?_
        refine xor_ 87 ⟨u211, _, rfl⟩ rfl ?_
        refine xcst 88 (1) ⟨u211, _, rfl⟩ rfl (by decide) (fun z87 h87 => ?_)
        refine xild 89 ⟨u211, _, rfl⟩ rfl rfl ?_
        refine xshl 90 ⟨u211, _, rfl⟩ rfl ?_
        refine xor_ 91 ⟨u211, _, rfl⟩ rfl ?_
        have e1 := i_shl h80 ha (by omega)
        have e2 := i_shl h83 hb (by omega)
        have e3 := i_or e1.1 e2.1 e1.2 e2.2
        have e4 := i_shl h87 (show z30.toInt = (c : Int) by omega) (by omega)
        have e5 := i_or e3.1 e4.1 e3.2 e4.2
        have eM : ((z80 <<< (a &&& 31) ||| z83 <<< (b &&& 31)) ||| z87 <<< (z30 &&& 31)).toInt = ((m3 x y c : Nat) : Int) := e5.1
        refine xiast 92 (z77).toInt.toNat hH71 ⟨u211, _, rfl⟩ rfl (by decide) rfl (by omega) (by omega) (by omega) (by omega) (fun hp91 hH91 U91 => ?_)
        have s91 := U91.1
        have n91_66_12 : rN hp91 (66) 12 = rN hp71 (66) 12 := rU_ne U91 (by first | decide | exact (fun z => absurd z.1 (by decide)) | omega)
        refine xald 93 ⟨u211, _, rfl⟩ rfl rfl ?_
        refine xdup 94 ⟨u211, _, rfl⟩ rfl rfl ?_
        refine xgetI 97 hH91 ⟨u211, _, rfl⟩ rfl rfl (fun z94 h94 => ?_)
        refine xcst 98 (1) ⟨u211, _, rfl⟩ rfl (by decide) (fun z97 h97 => ?_)
        refine xadd 99 _ ⟨u211, _, rfl⟩ rfl rfl (by omega) (by omega) (fun z98 h98 => ?_)
        refine xputI 102 hH91 ⟨u211, _, rfl⟩ rfl rfl ⟨rfl, rfl⟩ (by omega) (by omega) (fun hp99 hH99 U99 => ?_)
        have s99 := U99.1
        refine xinc 105 (1) ⟨u211, _, rfl⟩ rfl rfl rfl (by decide) (by omega) (by omega) (fun z102 h102 => ?_)
        refine xgoto ⟨u211, _, rfl⟩ ?_
        have s99 := U99.1
        have u51 := U51.1
        have u61 := U61.1
        have u71 := U71.1
        have u91 := U91.1
        refine ih (y + 1) _ hp99 _ hH99 (hF.trans (((((rU_fr U51 (bIn_all (by decide) _)).trans (rU_fr U61 (bIn_all (by decide) _))).trans (rU_fr U71 (bIn_all (by decide) _))).trans (rU_fr U91 (bIn_all (by decide) _))).trans (rU_fr U99 (by decide)))) (rdOk_fr hB (fun i => by rw [rU_ne U99 (by first | decide | exact (fun z => absurd z.1 (by decide)) | omega), rU_ne U91 (by first | decide | exact (fun z => absurd z.1 (by decide)) | omega), rU_ne U71 (by first | decide | exact (fun z => absurd z.1 (by decide)) | omega), rU_ne U61 (by first | decide | exact (fun z => absurd z.1 (by decide)) | omega), rU_ne U51 (by first | decide | exact (fun z => absurd z.1 (by decide)) | omega)])) ?_ (by omega) (by omega) (by omega)
        rw [show 15 * x + (y + 1) = 15 * x + y + 1 by omega]
        refine ⟨by rw [eL, List.length_append, List.length_singleton]; omega, fun t ht => ?_⟩
        rw [eL, List.length_append, List.length_singleton] at ht
        rw [eL, rU_ne U99 (by first | decide | exact (fun z => absurd z.1 (by decide)) | omega), rU_ne U99 (by first | decide | exact (fun z => absurd z.1 (by decide)) | omega), rU_ne U99 (by first | decide | exact (fun z => absurd z.1 (by decide)) | omega), rU_ne U99 (by first | decide | exact (fun z => absurd z.1 (by decide)) | omega), rU_ne U91 (by first | decide | exact (fun z => absurd z.1 (by decide)) | omega), rU_ne U91 (by first | decide | exact (fun z => absurd z.1 (by decide)) | omega), rU_ne U91 (by first | decide | exact (fun z => absurd z.1 (by decide)) | omega), rU_ne U71 (by first | decide | exact (fun z => absurd z.1 (by decide)) | omega), rU_ne U71 (by first | decide | exact (fun z => absurd z.1 (by decide)) | omega), rU_ne U61 (by first | decide | exact (fun z => absurd z.1 (by decide)) | omega)]
        by_cases g : t = (trL T (15 * x + y)).length
        · subst g
          rw [gd_end, show (15 * x + y) / 15 = x by omega, show (15 * x + y) % 15 = y by omega]
          refine ⟨?_, ?_, ?_, ?_⟩
          · rw [show (trL T (15 * x + y)).length = z47.toInt.toNat by omega]; omega
          · rw [show (trL T (15 * x + y)).length = z57.toInt.toNat by omega]; omega
          · rw [show (trL T (15 * x + y)).length = z67.toInt.toNat by omega]; omega
          · rw [show (trL T (15 * x + y)).length = z77.toInt.toNat by omega, u91, eM]
            unfold mk3
            rw [show (15 * x + y) / 15 = x by omega, show (15 * x + y) % 15 = y by omega, ec, Int.toNat_natCast]
        · rw [gd_app (by omega), rU_ne U51 (by first | decide | exact (fun z => absurd z.1 (by decide)) | omega), rU_ne U61 (by first | decide | exact (fun z => absurd z.1 (by decide)) | omega), rU_ne U71 (by first | decide | exact (fun z => absurd z.1 (by decide)) | omega), rU_ne U91 (by first | decide | exact (fun z => absurd z.1 (by decide)) | omega)]
          have := L2 t (by omega)
          rw [rU_ne U71 (by first | decide | exact (fun z => absurd z.1 (by decide)) | omega), rU_ne U61 (by first | decide | exact (fun z => absurd z.1 (by decide)) | omega), rU_ne U61 (by first | decide | exact (fun z => absurd z.1 (by decide)) | omega), rU_ne U51 (by first | decide | exact (fun z => absurd z.1 (by decide)) | omega), rU_ne U51 (by first | decide | exact (fun z => absurd z.1 (by decide)) | omega), rU_ne U51 (by first | decide | exact (fun z => absurd z.1 (by decide)) | omega)]
          exact this
      · refine xgoto ⟨u211, _, rfl⟩ ?_
        refine xinc 105 (1) ⟨u211, _, rfl⟩ rfl rfl rfl (by decide) (by omega) (by omega) (fun z102 h102 => ?_)
        refine xgoto ⟨u211, _, rfl⟩ ?_
        have e : trL T (15 * x + (y + 1)) = trL T (15 * x + y) := trL_no (by omega) (fun k k1 k2 => decide_eq_false (fun z => by
          rw [show k / 15 = x by omega, show k % 15 = y by omega] at z
          omega))
        exact ih (y + 1) _ hp _ hH hF hB (by unfold rlN; rw [e]; exact hL) (by omega) (by omega) (by omega)
theorem m211o {d : Nat} {hp0 : amH} {R : xQ} {V : Nat} {T : sT} (hR : ∀ hp1, bHk 84 bTT hp1 → bFr bLT hp0 hp1 → rdOk hp1 V T → rlN hp1 T 225 → R (.inl none) hp1) :
    ∀ (jj x : Nat) (a : Int32) (hp : amH) (v w : Option Value), bHk 84 bTT hp → bFr bLT hp0 hp → rdOk hp V T → rlN hp T (15 * x) → a.toInt = (x : Int) → x + jj = V → xV (d + 1) am_m211 7 [some (.ref 66), some (.int a), v, w] [] hp R := by
  intro jj
  induction jj with
  | zero =>
    intro x a hp v w hH hF hB hL ha hj
    have hV := hB.2.1.2.1
    have bV := hB.1
    refine xild 8 ⟨u211, _, rfl⟩ rfl rfl ?_
    refine xald 9 ⟨u211, _, rfl⟩ rfl rfl ?_
    refine xcall 12 [.ref 66] [.int _] hH ⟨u211, _, rfl⟩ rfl rfl rfl rfl rfl (k_points hH (fun z9 h9 => ⟨_, rfl, ?_⟩))
    refine xcmp_ge 15 ⟨u211, _, rfl⟩ rfl (fun c12 => ?_) (fun c12 => ?_)
    · have e : trL T 225 = trL T (15 * x) := trL_no (by omega) (fun k k1 k2 => decide_eq_false (fun z => by
        rcases hB.2.1.2.2 (k / 15) (k % 15) with g | ⟨c, g1, g2, g3, -⟩ <;> omega))
      exact xretV ⟨u211, _, rfl⟩ rfl (hR hp hH hF hB (by unfold rlN; rw [e]; exact hL))
    · omega
  | succ jj ih =>
    intro x a hp v w hH hF hB hL ha hj
    have hV := hB.2.1.2.1
    have bV := hB.1
    refine xild 8 ⟨u211, _, rfl⟩ rfl rfl ?_
    refine xald 9 ⟨u211, _, rfl⟩ rfl rfl ?_
    refine xcall 12 [.ref 66] [.int _] hH ⟨u211, _, rfl⟩ rfl rfl rfl rfl rfl (k_points hH (fun z9 h9 => ⟨_, rfl, ?_⟩))
    refine xcmp_ge 15 ⟨u211, _, rfl⟩ rfl (fun c12 => ?_) (fun c12 => ?_)
    · omega
    · refine xild 16 ⟨u211, _, rfl⟩ rfl rfl ?_
      refine xcst 17 (1) ⟨u211, _, rfl⟩ rfl (by decide) (fun z16 h16 => ?_)
      refine xadd 18 _ ⟨u211, _, rfl⟩ rfl rfl (by omega) (by omega) (fun z17 h17 => ?_)
      refine xist 19 ⟨u211, _, rfl⟩ rfl rfl ?_
      have e : trL T (15 * x + (x + 1)) = trL T (15 * x) := trL_no (by omega) (fun k k1 k2 => decide_eq_false (fun z => by
        rw [show k / 15 = x by omega] at z
        omega))
      refine m211i ha (by omega) (fun hp1 y1 w1 g1 g2 g3 g4 => ?_) (V - (x + 1)) (x + 1) _ hp w hH hF hB (by unfold rlN; rw [e]; exact hL) (by omega) (by omega) (by omega)
      refine xinc 111 (1) ⟨u211, _, rfl⟩ rfl rfl rfl (by decide) (by omega) (by omega) (fun z108 h108 => ?_)
      refine xgoto ⟨u211, _, rfl⟩ ?_
      exact ih (x + 1) _ hp1 _ _ g1 g2 g3 g4 (by omega) (by omega)
theorem k_rlst {d : Nat} {hp : amH} {R : xQ} {V : Nat} {T : sT} (hH : bHk 84 bTT hp) (hB : rdOk hp V T) (hR : ∀ hp1, bHk 84 bTT hp1 → bFr bLT hp hp1 → rdOk hp1 V T → rlN hp1 T 225 → R (.inl none) hp1) : xK (d + 1) 211 [.ref 66] hp R := by
  have bV := hB.1
  have hV := hB.2.1.2.1
  refine xin (M := am_m211) rfl rfl rfl ?_
  refine xald 1 ⟨u211, _, rfl⟩ rfl rfl ?_
  refine xcst 2 (0) ⟨u211, _, rfl⟩ rfl (by decide) (fun z1 h1 => ?_)
  refine xputI 5 hH ⟨u211, _, rfl⟩ rfl rfl ⟨rfl, rfl⟩ (by omega) (by omega) (fun hp2 hH2 U2 => ?_)
  have s2 := U2.1
  refine xcst 6 (0) ⟨u211, _, rfl⟩ rfl (by decide) (fun z5 h5 => ?_)
  refine xist 7 ⟨u211, _, rfl⟩ rfl rfl ?_
  refine xpad 2 ?_
  exact m211o hR V 0 _ hp2 _ _ hH2 (rU_fr U2 (by decide)) (rdOk_fr hB (fun i => rU_ne U2 (by first | decide | exact (fun z => absurd z.1 (by decide)) | omega))) ⟨by rw [s2]; exact h1, fun t ht => absurd ht (Nat.not_lt_zero t)⟩ (by omega) (by omega)
/-- how many triples there are -/
theorem k_rtm {d : Nat} {hp : amH} {R : xQ} {V : Nat} {T : sT} (hH : bHk 84 bTT hp) (hB : rdOk hp V T) (hR : ∀ (z : Int32) hp1, bHk 84 bTT hp1 → bFr bLT hp hp1 → rdOk hp1 V T → rlN hp1 T 225 → z.toInt = (((trL T 225).length : Nat) : Int) → R (.inl (some (.int z))) hp1) : xK (d + 2) 213 [.ref 66] hp R := by
  refine xin (M := am_m213) rfl rfl rfl ?_
  refine xald 1 ⟨u213, _, rfl⟩ rfl rfl ?_
  refine xcall 4 [.ref 66] [] hH ⟨u213, _, rfl⟩ rfl rfl rfl rfl rfl (k_rlst hH hB (fun hp1 hH1 F1 B1 L1 => ⟨_, rfl, ?_⟩))
  refine xald 5 ⟨u213, _, rfl⟩ rfl rfl ?_
  refine xgetI 8 hH1 ⟨u213, _, rfl⟩ rfl rfl (fun z5 h5 => ?_)
  exact xret ⟨u213, _, rfl⟩ rfl (hR _ hp1 hH1 F1 B1 L1 (by rw [h5]; exact L1.1))
end
/-! ##### 19.m.028.28d ##### -/
section
/-! ===== boards copied; loads with what comes of them ===== -/
theorem u2 : bUp 0 am_m2.1 = true := by decide +kernel
section XCP
variable {M : amM} {pc a' d : Nat} {L : List (Option Value)} {hp : amH} {Q : xQ}
theorem xacpy (q N : Nat) {s t : Nat} {i : _} {n dp sp : Int32} (hH : bHk 84 bTT hp) (h : xI M pc (.invokestatic i) a' 6) (e : q = pc + 3) (hs : s < 84) (ht : t < 84) (hTs : bTT s = some (32, N, [.inl (0, 4294967295)])) (hTt : bTT t = some (32, N, [.inl (0, 4294967295)])) (hsp : sp.toInt = 0) (hdp : dp.toInt = 0) (hn : n.toInt = (N : Int))
    (hw : ∀ hp1, bHk 84 bTT hp1 → bFx [t] hp hp1 → (∀ i, i < N → rN hp1 t i = rN hp s i) → xV d M q L [] hp1 Q) : xV d M pc L [.int n, .int dp, .ref t, .int sp, .ref s] hp Q := by
  obtain ⟨ws, h1, h2, h3⟩ := r_row hH hs hTs
  obtain ⟨wt, g1, g2, -⟩ := r_row hH ht hTt
  obtain ⟨k1, k2, k3⟩ := r_set hH hTt (w := ws) g1 h2
  have e1 : sp = 0 := Int32.toInt_inj.mp hsp
  have e2 : dp = 0 := Int32.toInt_inj.mp hdp
  subst e1 e2
  have e3 : n.toNatClampNeg = N := by rw [Int32.toNatClampNeg, hn, Int.toNat_natCast]
  have hcp : (wt.map Value.int).take 0 ++ (((ws.map Value.int).drop 0).take N ++ (wt.map Value.int).drop (0 + N)) = ws.map Value.int := by
    rw [List.take_zero, List.nil_append, List.drop_zero, List.take_of_length_le (by rw [List.length_map]; omega), Nat.zero_add, List.drop_eq_nil_of_le (by rw [List.length_map]; omega), List.append_nil]
  have z0 : (0 : Int32).toNatClampNeg = 0 := by decide
  have hn0 : ¬ n < 0 := fun z => by
    have g := Int32.lt_iff_toInt_lt.mp z
    have z1 : (0 : Int32).toInt = 0 := by decide
    omega
  refine xstep h (fun cl hl => ⟨cl, ?_, hl⟩) (hw _ k1 (fun c k hc => k2 c k ?_) (fun i hi => by rw [k3 i hi, h3 i hi]))
  · subst e
    simp only [amDo, if_true, amCopy, h1, g1, z0, e3, hcp]
    rw [if_pos ⟨trivial, trivial, by decide, by decide, hn0, by rw [List.length_map]; omega, by rw [List.length_map]; omega, by decide⟩]
  · have hc : ¬ t = c := fun z => hc (by rw [z]; simp)
    simp [bIn, show Nat.beq t c = false from by cases e : Nat.beq t c; rfl; exact absurd (Nat.eq_of_beq_eq_true e) hc]
end XCP
/-- a board is copied -/
theorem k_cpB {d : Nat} {hp : amH} {R : xQ} {o o2 V : Nat} {T : sT} (ho : bo o) (ho2 : bo o2) (hne : ¬ o = o2) (hH : bHk 84 bTT hp) (hB : bdOk hp o2 V T) (hR : ∀ hp1, bHk 84 bTT hp1 → bFx [o, o + 1, o + 3] hp hp1 → bdOk hp1 o V T → rN hp1 o 1 = 0 → R (.inl none) hp1) : xK d 2 [.ref o, .ref o2] hp R := by
  have q := b_pts hH ho
  have q2 := b_pts hH ho2
  refine xin (M := am_m2) rfl rfl (by unfold xAv; simp [amOk, bo_lt ho, bo_lt ho2, Value.category]) ?_
  refine xald 1 ⟨u2, _, rfl⟩ rfl rfl ?_
  refine xald 2 ⟨u2, _, rfl⟩ rfl rfl ?_
  refine xgetC 5 hH ⟨u2, _, rfl⟩ rfl (bo_lt ho2) (by decide) (bo_T ho2) rfl (by decide) (fun z2 h2 => ?_)
  refine xputC 8 hH ⟨u2, _, rfl⟩ rfl (bo_lt ho) (by decide) (bo_T ho) rfl (by decide) ⟨rfl, rfl⟩ (by omega) (by omega) (fun hp5 hH5 U5 => ?_)
  refine xald 9 ⟨u2, _, rfl⟩ rfl rfl ?_
  refine xcst 10 (0) ⟨u2, _, rfl⟩ rfl (by decide) (fun z9 h9 => ?_)
  refine xputC 13 hH5 ⟨u2, _, rfl⟩ rfl (bo_lt ho) (by decide) (bo_T ho) rfl (by decide) ⟨rfl, rfl⟩ (by omega) (by omega) (fun hp10 hH10 U10 => ?_)
  refine xald 14 ⟨u2, _, rfl⟩ rfl rfl ?_
  refine xgetD 17 (o2 + 1) hH10 ⟨u2, _, rfl⟩ rfl (bo_lt ho2) (by decide) (bo_T ho2) rfl (by decide) ?_
  refine xcst 18 (0) ⟨u2, _, rfl⟩ rfl (by decide) (fun z17 h17 => ?_)
  refine xald 19 ⟨u2, _, rfl⟩ rfl rfl ?_
  refine xgetD 22 (o + 1) hH10 ⟨u2, _, rfl⟩ rfl (bo_lt ho) (by decide) (bo_T ho) rfl (by decide) ?_
  refine xcst 23 (0) ⟨u2, _, rfl⟩ rfl (by decide) (fun z22 h22 => ?_)
  refine xald 24 ⟨u2, _, rfl⟩ rfl rfl ?_
  refine xgetD 27 (o + 1) hH10 ⟨u2, _, rfl⟩ rfl (bo_lt ho) (by decide) (bo_T ho) rfl (by decide) ?_
  refine xlen 28 hH10 ⟨u2, _, rfl⟩ rfl (bo_lt1 ho) (bo_T1 ho) (by decide) (by decide) (fun z27 h27 => ?_)
  refine xacpy 31 225 hH10 ⟨u2, _, rfl⟩ rfl (bo_lt1 ho2) (bo_lt1 ho) (bo_T1 ho2) (bo_T1 ho) (by omega) (by omega) (by omega) (fun hp28 hH28 F28 E28 => ?_)
  refine xald 32 ⟨u2, _, rfl⟩ rfl rfl ?_
  refine xgetD 35 (o2 + 3) hH28 ⟨u2, _, rfl⟩ rfl (bo_lt ho2) (by decide) (bo_T ho2) rfl (by decide) ?_
  refine xcst 36 (0) ⟨u2, _, rfl⟩ rfl (by decide) (fun z35 h35 => ?_)
  refine xald 37 ⟨u2, _, rfl⟩ rfl rfl ?_
  refine xgetD 40 (o + 3) hH28 ⟨u2, _, rfl⟩ rfl (bo_lt ho) (by decide) (bo_T ho) rfl (by decide) ?_
  refine xcst 41 (0) ⟨u2, _, rfl⟩ rfl (by decide) (fun z40 h40 => ?_)
  refine xald 42 ⟨u2, _, rfl⟩ rfl rfl ?_
  refine xgetD 45 (o + 3) hH28 ⟨u2, _, rfl⟩ rfl (bo_lt ho) (by decide) (bo_T ho) rfl (by decide) ?_
  refine xlen 46 hH28 ⟨u2, _, rfl⟩ rfl (bo_lt3 ho) (bo_T3 ho) (by decide) (by decide) (fun z45 h45 => ?_)
  refine xacpy 49 15 hH28 ⟨u2, _, rfl⟩ rfl (bo_lt3 ho2) (bo_lt3 ho) (bo_T3 ho2) (bo_T3 ho) (by omega) (by omega) (by omega) (fun hp46 hH46 F46 E46 => ?_)
  have u5 := U5.1
  have u10 := U10.1
  have bb : o = 3 ∧ o2 = 8 ∨ o = 8 ∧ o2 = 3 := by omega
  refine xretV ⟨u2, _, rfl⟩ rfl (hR hp46 hH46 ((((bFx_U U5 (by simp)).trans (bFx_U U10 (by simp))).trans (F28.mono (by simp))).trans (F46.mono (by simp))) ⟨?_, hB.2.1, fun u v hu hv => ?_, hB.2.2.2.1, fun p hp => ?_⟩ ?_)
  · rw [bFx_n F46 (by simp), bFx_n F28 (by simp), rU_ne U10 (by first | decide | exact (fun z => absurd z.1 (by decide)) | omega), u5, h2]
    exact hB.1
  · rw [bFx_n F46 (by simp), E28 _ (by omega), rU_ne U10 (by first | decide | exact (fun z => absurd z.1 (by decide)) | omega), rU_ne U5 (by first | decide | exact (fun z => absurd z.1 (by decide)) | omega)]
    exact hB.2.2.1 u v hu hv
  · rw [E46 p hp, bFx_n F28 (by simp; omega), rU_ne U10 (by first | decide | exact (fun z => absurd z.1 (by decide)) | omega), rU_ne U5 (by first | decide | exact (fun z => absurd z.1 (by decide)) | omega)]
    exact hB.2.2.2.2 p hp
  · rw [bFx_n F46 (by simp), bFx_n F28 (by simp), u10]
    exact h9
end
/-! ##### 19.m.029.29a ##### -/
section
/-! ===== loads with the systems that come of them: the class ===== -/
noncomputable def wTy : List (Nat × Nat) := [(13, 0), (13, 1), (13, 2)]
noncomputable def wFg : List (Nat × Nat) := [(14, 0), (14, 3)]
theorem u92 : bUp 0 am_m92.1 = true := by decide +kernel
theorem u55 : bUp 0 am_m55.1 = true := by decide +kernel
theorem k_tyr {d : Nat} {hp : amH} {R : xQ} (hH : bHk 84 bTT hp) (hR : ∀ hp1, bHk 84 bTT hp1 → bFr wTy hp hp1 → (∀ i, i < 3 → rN hp1 13 i = 0) → R (.inl none) hp1) : xK d 92 [.ref 13] hp R := by
  refine xin (M := am_m92) rfl rfl rfl ?_
  refine xald 1 ⟨u92, _, rfl⟩ rfl rfl ?_
  refine xcst 2 (0) ⟨u92, _, rfl⟩ rfl (by decide) (fun z1 h1 => ?_)
  refine xputC 5 hH ⟨u92, _, rfl⟩ rfl (by decide) (by decide) rfl rfl (by decide) ⟨rfl, rfl⟩ (by omega) (by omega) (fun hp2 hH2 U2 => ?_)
  have s2 := U2.1
  have n2_13_1 : rN hp2 (13) 1 = rN hp (13) 1 := rU_ne U2 (by first | decide | exact (fun z => absurd z.1 (by decide)) | omega)
  have n2_13_2 : rN hp2 (13) 2 = rN hp (13) 2 := rU_ne U2 (by first | decide | exact (fun z => absurd z.1 (by decide)) | omega)
  refine xald 6 ⟨u92, _, rfl⟩ rfl rfl ?_
  refine xcst 7 (0) ⟨u92, _, rfl⟩ rfl (by decide) (fun z6 h6 => ?_)
  refine xputC 10 hH2 ⟨u92, _, rfl⟩ rfl (by decide) (by decide) rfl rfl (by decide) ⟨rfl, rfl⟩ (by omega) (by omega) (fun hp7 hH7 U7 => ?_)
  have s7 := U7.1
  have n7_13_0 : rN hp7 (13) 0 = rN hp2 (13) 0 := rU_ne U7 (by first | decide | exact (fun z => absurd z.1 (by decide)) | omega)
  have n7_13_2 : rN hp7 (13) 2 = rN hp2 (13) 2 := rU_ne U7 (by first | decide | exact (fun z => absurd z.1 (by decide)) | omega)
  refine xald 11 ⟨u92, _, rfl⟩ rfl rfl ?_
  refine xcst 12 (0) ⟨u92, _, rfl⟩ rfl (by decide) (fun z11 h11 => ?_)
  refine xputC 15 hH7 ⟨u92, _, rfl⟩ rfl (by decide) (by decide) rfl rfl (by decide) ⟨rfl, rfl⟩ (by omega) (by omega) (fun hp12 hH12 U12 => ?_)
  have s12 := U12.1
  have n12_13_0 : rN hp12 (13) 0 = rN hp7 (13) 0 := rU_ne U12 (by first | decide | exact (fun z => absurd z.1 (by decide)) | omega)
  have n12_13_1 : rN hp12 (13) 1 = rN hp7 (13) 1 := rU_ne U12 (by first | decide | exact (fun z => absurd z.1 (by decide)) | omega)
  exact xretV ⟨u92, _, rfl⟩ rfl (hR _ hH12 (((rU_fr U2 (by decide)).trans (rU_fr U7 (by decide))).trans (rU_fr U12 (by decide))) (fun i hi => by rcases (by omega : i = 0 ∨ i = 1 ∨ i = 2) with rfl | rfl | rfl <;> omega))
theorem k_fga {d : Nat} {hp : amH} {R : xQ} (hH : bHk 84 bTT hp) (hR : ∀ hp1, bHk 84 bTT hp1 → bFr wFg hp hp1 → rN hp1 14 0 = 0 → rN hp1 14 3 = 0 → R (.inl none) hp1) : xK d 55 [.ref 14] hp R := by
  refine xin (M := am_m55) rfl rfl rfl ?_
  refine xald 1 ⟨u55, _, rfl⟩ rfl rfl ?_
  refine xcst 2 (0) ⟨u55, _, rfl⟩ rfl (by decide) (fun z1 h1 => ?_)
  refine xputC 5 hH ⟨u55, _, rfl⟩ rfl (by decide) (by decide) rfl rfl (by decide) ⟨rfl, rfl⟩ (by omega) (by omega) (fun hp2 hH2 U2 => ?_)
  have s2 := U2.1
  have n2_14_3 : rN hp2 (14) 3 = rN hp (14) 3 := rU_ne U2 (by first | decide | exact (fun z => absurd z.1 (by decide)) | omega)
  refine xald 6 ⟨u55, _, rfl⟩ rfl rfl ?_
  refine xcst 7 (0) ⟨u55, _, rfl⟩ rfl (by decide) (fun z6 h6 => ?_)
  refine xputC 10 hH2 ⟨u55, _, rfl⟩ rfl (by decide) (by decide) rfl rfl (by decide) (by rw [show z6 = 0 from Int32.toInt_inj.mp h6]; exact ⟨rfl, rfl⟩) (by omega) (by omega) (fun hp7 hH7 U7 => ?_)
  have s7 := U7.1
  have n7_14_0 : rN hp7 (14) 0 = rN hp2 (14) 0 := rU_ne U7 (by first | decide | exact (fun z => absurd z.1 (by decide)) | omega)
  exact xretV ⟨u55, _, rfl⟩ rfl (hR _ hH7 ((rU_fr U2 (by decide)).trans (rU_fr U7 (by decide))) (by omega) (by omega))
end
/-! ##### 19.m.030.29b ##### -/
section
/-! ===== loads with the systems that come of them: the reference ===== -/
theorem l199z {d : Nat} {hp0 : amH} {R : xQ} {m : Int32} (m0 : 3 ≤ m.toInt) (m1 : m.toInt ≤ 15) (hR : ∀ hp1, bHk 84 bTT hp1 → bFr [(67, 999)] hp0 hp1 → rN hp1 67 0 = m.toInt → hE hp1 → (∀ i, 1 ≤ i → i < 4 → rN hp1 67 i = 0) → R (.inl none) hp1) :
    ∀ (jj : Nat) (k : Int32) (hp : amH), k.toInt + (jj : Int) = 229 → 0 ≤ k.toInt → bHk 84 bTT hp → bFr [(67, 999)] hp0 hp → (∀ i, 4 ≤ i → i < k.toInt.toNat → rN hp 67 i = -1) → (∀ i, 1 ≤ i → i < 4 → i < k.toInt.toNat → rN hp 67 i = 0) → xV d am_m199 2 [some (.ref 66), some (.int m), some (.int k)] [] hp R := by
  intro jj
  induction jj using Nat.strongRecOn with
  | ind jj ih =>
    intro k hp hjj k0 hH hF hM hZ
    refine xild 3 ⟨u199, _, rfl⟩ rfl rfl ?_
    refine xsip 6 (229) ⟨u199, _, rfl⟩ rfl (by decide) (fun z3 h3 => ?_)
    refine xcmp_ge 9 ⟨u199, _, rfl⟩ rfl (fun c6 => ?_) (fun c6 => ?_)
    · refine xald 32 ⟨u199, _, rfl⟩ rfl rfl ?_
      refine xgetR 35 67 hH ⟨u199, _, rfl⟩ rfl rfl ?_
      refine xcst 36 (0) ⟨u199, _, rfl⟩ rfl (by decide) (fun z35 h35 => ?_)
      refine xild 37 ⟨u199, _, rfl⟩ rfl rfl ?_
      refine xiast 38 0 hH ⟨u199, _, rfl⟩ rfl (by decide) rfl (by omega) (by omega) (by omega) (by omega) (fun hp37 hH37 U37 => ?_)
      exact xretV ⟨u199, _, rfl⟩ rfl (hR hp37 hH37 (hF.trans (rU_fr U37 (bIn_all (by decide) _))) U37.1 (fun i g1 g2 => by rw [show rN hp37 67 i = rN hp 67 i from rU_ne U37 (by first | decide | exact (fun z => absurd z.1 (by decide)) | omega)]; exact hM i g1 (by omega)) (fun i g1 g2 => by rw [show rN hp37 67 i = rN hp 67 i from rU_ne U37 (by first | decide | exact (fun z => absurd z.1 (by decide)) | omega)]; exact hZ i g1 g2 (by omega)))
    · refine xald 10 ⟨u199, _, rfl⟩ rfl rfl ?_
      refine xgetR 13 67 hH ⟨u199, _, rfl⟩ rfl rfl ?_
      refine xild 14 ⟨u199, _, rfl⟩ rfl rfl ?_
      refine xild 15 ⟨u199, _, rfl⟩ rfl rfl ?_
      refine xcst 16 (4) ⟨u199, _, rfl⟩ rfl (by decide) (fun z15 h15 => ?_)
      refine xcmp_ge 19 ⟨u199, _, rfl⟩ rfl (fun c16 => ?_) (fun c16 => ?_)
      · refine xcst 24 (-1) ⟨u199, _, rfl⟩ rfl (by decide) (fun z23 h23 => ?_)
        refine xiast 25 (k).toInt.toNat hH ⟨u199, _, rfl⟩ rfl (by decide) rfl (by omega) (by omega) (by omega) (by omega) (fun hp24 hH24 U24 => ?_)
        refine xinc 28 (1) ⟨u199, _, rfl⟩ rfl rfl rfl (by decide) (by omega) (by omega) (fun z25 h25 => ?_)
        refine xgoto ⟨u199, _, rfl⟩ ?_
        exact ih (jj - 1) (by omega) _ hp24 (by omega) (by omega) hH24 (hF.trans (rU_fr U24 (bIn_all (by decide) _))) (fun i g1 g2 => by
          by_cases e : i = k.toInt.toNat
          · rw [e, U24.1]; omega
          · rw [show rN hp24 67 i = rN hp 67 i from rU_ne U24 (by first | decide | exact (fun z => absurd z.1 (by decide)) | omega)]; exact hM i g1 (by omega)) (fun i g1 g2 g3 => by
          by_cases e : i = k.toInt.toNat
          · rw [e, U24.1]; omega
          · rw [show rN hp24 67 i = rN hp 67 i from rU_ne U24 (by first | decide | exact (fun z => absurd z.1 (by decide)) | omega)]; exact hZ i g1 g2 (by omega))
      · refine xcst 20 (0) ⟨u199, _, rfl⟩ rfl (by decide) (fun z19 h19 => ?_)
        refine xgoto ⟨u199, _, rfl⟩ ?_
        refine xiast 25 (k).toInt.toNat hH ⟨u199, _, rfl⟩ rfl (by decide) rfl (by omega) (by omega) (by omega) (by omega) (fun hp24 hH24 U24 => ?_)
        refine xinc 28 (1) ⟨u199, _, rfl⟩ rfl rfl rfl (by decide) (by omega) (by omega) (fun z25 h25 => ?_)
        refine xgoto ⟨u199, _, rfl⟩ ?_
        exact ih (jj - 1) (by omega) _ hp24 (by omega) (by omega) hH24 (hF.trans (rU_fr U24 (bIn_all (by decide) _))) (fun i g1 g2 => by
          by_cases e : i = k.toInt.toNat
          · rw [e, U24.1]; omega
          · rw [show rN hp24 67 i = rN hp 67 i from rU_ne U24 (by first | decide | exact (fun z => absurd z.1 (by decide)) | omega)]; exact hM i g1 (by omega)) (fun i g1 g2 g3 => by
          by_cases e : i = k.toInt.toNat
          · rw [e, U24.1]; omega
          · rw [show rN hp24 67 i = rN hp 67 i from rU_ne U24 (by first | decide | exact (fun z => absurd z.1 (by decide)) | omega)]; exact hZ i g1 g2 (by omega))
theorem k_emz {d : Nat} {hp0 : amH} {R : xQ} {m : Int32} (hH : bHk 84 bTT hp0) (m0 : 3 ≤ m.toInt) (m1 : m.toInt ≤ 15) (hR : ∀ hp1, bHk 84 bTT hp1 → bFr [(67, 999)] hp0 hp1 → rN hp1 67 0 = m.toInt → hE hp1 → (∀ i, 1 ≤ i → i < 4 → rN hp1 67 i = 0) → R (.inl none) hp1) : xK d 199 [.ref 66, .int m] hp0 R := by
  refine xin (M := am_m199) rfl rfl rfl ?_
  refine xcst 1 (0) ⟨u199, _, rfl⟩ rfl (by decide) (fun z0 h0 => ?_)
  refine xist 2 ⟨u199, _, rfl⟩ rfl rfl ?_
  exact l199z m0 m1 hR 229 _ hp0 (by omega) (by omega) hH (bFr.refl _ _) (fun i g1 g2 => absurd g2 (by omega)) (fun i g1 g2 g3 => absurd g3 (by omega))
end
/-! ##### 19.m.032.30a ##### -/
section
/-! ===== ways by hand: rules for references and longs ===== -/
noncomputable def rJ (hp : amH) (c i : Nat) : Int := match bFld hp c i with
  | some (.long x) => x.toInt
  | _ => 0
/-- the field i of the cell c holds v, all else is as it was -/
noncomputable def rV (hp hp1 : amH) (c i : Nat) (v : Value) : Prop := bFld hp1 c i = some v ∧ ∀ c1 i1, ¬ (c1 = c ∧ i1 = i) → bFld hp1 c1 i1 = bFld hp c1 i1
theorem rJ_eq {hp hp1 : amH} {c i c1 i1 : Nat} (h : bFld hp1 c1 i1 = bFld hp c i) : rJ hp1 c1 i1 = rJ hp c i := by unfold rJ; rw [h]
theorem rV_ne {hp hp1 : amH} {c i : Nat} {v : Value} (h : rV hp hp1 c i v) {c1 i1 : Nat} (hn : ¬ (c1 = c ∧ i1 = i)) : rN hp1 c1 i1 = rN hp c1 i1 := rN_eq (h.2 c1 i1 hn)
theorem rV_J {hp hp1 : amH} {c i : Nat} {x : Int64} (h : rV hp hp1 c i (.long x)) : rJ hp1 c i = x.toInt := by unfold rJ; rw [h.1]
theorem rJ_ne {hp hp1 : amH} {c i : Nat} {m : Int} (h : rU hp hp1 c i m) {c1 i1 : Nat} (hn : ¬ (c1 = c ∧ i1 = i)) : rJ hp1 c1 i1 = rJ hp c1 i1 := rJ_eq (h.2 c1 i1 hn)
theorem bFld_at {hp : amH} {c f : Nat} {v : Value} (h : bFld hp c f = some v) : ∃ d, hp[c]? = some d ∧ d.2[f]? = some v := by
  unfold bFld at h
  split at h
  · next d e => exact ⟨d, e, h⟩
  · cases h
/-- a field of a cell written with what its type allows -/
theorem v_set {hp : amH} (hH : bHk 84 bTT hp) {c t n f : Nat} {ys : List bY} {y : bY} {v : Value} (hc : c < 84) (hT : bTT c = some (t, n, ys)) (hy : bDy (t, n, ys) f = some y) (hm : f < n) (hv : bYr 84 y v) : ∃ vs, hp[c]? = some (t, vs) ∧ f < vs.length ∧ vs.length = n ∧ bHk 84 bTT (hp.set c (t, vs.set f v)) ∧ rV hp (hp.set c (t, vs.set f v)) c f v := by
  obtain ⟨⟨t1, vs⟩, g1, g2, g3, g4⟩ := bHk_at hH hc hT
  have g2 : t1 = t := g2
  subst g2
  have g3 : vs.length = n := g3
  refine ⟨vs, g1, by omega, g3, bHk_set hH hT (bHc_set ⟨rfl, g3, g4⟩ hy hv), ?_, fun c1 i1 hne => ?_⟩
  · rw [bFld_set g1, if_pos rfl]
    dsimp only
    rw [List.getElem?_set_self (by omega)]
  · rw [bFld_set g1]
    split
    · next z =>
      subst z
      dsimp only
      rw [List.getElem?_set_ne (fun z => hne ⟨rfl, z.symm⟩)]
      unfold bFld
      rw [g1]
    · rfl
theorem x_row2 {hp : amH} (hH : bHk 84 bTT hp) {c n t : Nat} {ys : List bY} (hc : c < 84) (hT : bTT c = some (t, n, ys)) : ∃ vs, hp[c]? = some (t, vs) ∧ vs.length = n := by
  obtain ⟨⟨t1, vs⟩, g1, g2, g3, g4⟩ := bHk_at hH hc hT
  have g2 : t1 = t := g2
  subst g2
  exact ⟨vs, g1, g3⟩
theorem bT_J {v : Value} (h : bT 1 v) : ∃ x, v = .long x := by
  rcases h with ⟨-, x, rfl⟩ | ⟨h, -⟩ | ⟨h, -⟩ | ⟨h, -⟩ | ⟨h, -⟩
  · exact ⟨x, rfl⟩
  all_goals exact absurd h (by decide)
theorem bT_J1 {n : Nat} {x : Int64} : bYr n (.inr (.inl 1)) (.long x) := Or.inl ⟨rfl, x, rfl⟩
theorem lg_cmp_t (x y : Int64) : ((lg_cmp x y).toInt = -1 ∧ x.toInt < y.toInt) ∨ ((lg_cmp x y).toInt = 0 ∧ x.toInt = y.toInt) ∨ ((lg_cmp x y).toInt = 1 ∧ y.toInt < x.toInt) := by
  unfold lg_cmp
  have h1 : (1 : Int32).toInt = 1 := by decide
  have h0 : (0 : Int32).toInt = 0 := by decide
  have hm : (-1 : Int32).toInt = -1 := by decide
  by_cases g : x > y
  · rw [if_pos g]
    exact Or.inr (Or.inr ⟨h1, Int64.lt_iff_toInt_lt.mp g⟩)
  · rw [if_neg g]
    by_cases e : x = y
    · rw [if_pos e]
      exact Or.inr (Or.inl ⟨h0, by rw [e]⟩)
    · rw [if_neg e]
      have k1 : ¬ y.toInt < x.toInt := fun z => g (Int64.lt_iff_toInt_lt.mpr z)
      have k2 : ¬ x.toInt = y.toInt := fun z => e (Int64.toInt_inj.mp z)
      exact Or.inl ⟨hm, by omega⟩
section XJ
variable {M : amM} {pc a b d : Nat} {L : List (Option Value)} {st : List Value} {hp : amH} {Q : xQ}
theorem xgetF (q j : Nat) {c t n f : Nat} {ys : List bY} {i : _} (hH : bHk 84 bTT hp) (h : xI M pc (.getfield i) t f) (e : q = pc + 3) (hc : c < 84) (h32 : t < 32) (hT : bTT c = some (t, n, ys)) (hF : bFld hp c f = some (.ref j)) (hw : xV d M q L (.ref j :: st) hp Q) : xV d M pc L (.ref c :: st) hp Q := by
  obtain ⟨vs, g1, -⟩ := x_row2 hH hc hT
  obtain ⟨d1, k1, k2⟩ := bFld_at hF
  cases g1.symm.trans k1
  refine xstep h (fun cl hl => ⟨cl, ?_, hl⟩) hw
  subst e
  simp [amDo, amStep, amFGet, g1, k2, h32]
theorem xgetJ (q : Nat) {c t n f : Nat} {ys : List bY} {i : _} (hH : bHk 84 bTT hp) (h : xI M pc (.getfield i) t f) (e : q = pc + 3) (hc : c < 84) (h32 : t < 32) (hT : bTT c = some (t, n, ys)) (hy : bDy (t, n, ys) f = some (.inr (.inl 1))) (hm : f < n) (hw : ∀ z : Int64, z.toInt = rJ hp c f → xV d M q L (.long z :: st) hp Q) : xV d M pc L (.ref c :: st) hp Q := by
  obtain ⟨⟨t1, vs⟩, g1, g2, g3, g4⟩ := bHk_at hH hc hT
  have g2 : t1 = t := g2
  subst g2
  have g3 : vs.length = n := g3
  have hv : f < vs.length := by omega
  obtain ⟨y, k1, k2⟩ := g4 f vs[f] (List.getElem?_eq_getElem hv)
  rw [hy] at k1
  cases k1
  obtain ⟨x, ex⟩ := bT_J k2
  refine xstep h (fun cl hl => ⟨cl, ?_, hl⟩) (hw x ?_)
  · subst e
    simp [amDo, amStep, amFGet, g1, h32, List.getElem?_eq_getElem hv, ex]
  · unfold rJ bFld
    rw [g1]
    dsimp only
    rw [List.getElem?_eq_getElem hv, ex]
theorem xputJ (q : Nat) {c t n f : Nat} {ys : List bY} {i : _} {x : Int64} (hH : bHk 84 bTT hp) (h : xI M pc (.putfield i) t f) (e : q = pc + 3) (hc : c < 84) (h32 : t < 32) (hT : bTT c = some (t, n, ys)) (hy : bDy (t, n, ys) f = some (.inr (.inl 1))) (hm : f < n) (hn : narrow (amFty t f) (.long x) = .long x ∧ fits (amFty t f) (.long x) = true)
    (hw : ∀ hp1, bHk 84 bTT hp1 → rV hp hp1 c f (.long x) → xV d M q L st hp1 Q) : xV d M pc L (.long x :: .ref c :: st) hp Q := by
  obtain ⟨vs, g1, g2, g3, k1, k2⟩ := v_set hH (v := .long x) hc hT hy hm bT_J1
  refine xstep h (fun cl hl => ⟨cl, ?_, hl⟩) (hw _ k1 k2)
  subst e
  simp [amDo, amStep, amFSet, g1, g2, hn.1, hn.2, h32]
theorem xaald (q n j : Nat) {c len : Nat} {ys : List bY} {x : Int32} (hH : bHk 84 bTT hp) (h : xI M pc .aaload a b) (e : q = pc + 1) (hc : c < 84) (hT : bTT c = some (35, len, ys)) (hn : x.toInt = (n : Int)) (hl : n < len) (hF : bFld hp c n = some (.ref j)) (hw : xV d M q L (.ref j :: st) hp Q) : xV d M pc L (.int x :: .ref c :: st) hp Q := by
  obtain ⟨vs, g1, g3⟩ := x_row2 hH hc hT
  obtain ⟨d1, k1, k2⟩ := bFld_at hF
  cases g1.symm.trans k1
  have k2 : vs[n]? = some (.ref j) := k2
  refine xstep h (fun cl hl => ⟨cl, ?_, hl⟩) hw
  obtain ⟨e1, e2⟩ := rw_in (m := vs.length) hn (by omega)
  subst e
  simp [amDo, amStep, amALd, g1, e1, e2, amIsA, k2]
theorem xaast (q n j : Nat) {c len : Nat} {ys : List bY} {y : bY} {x : Int32} (hH : bHk 84 bTT hp) (h : xI M pc .aastore a b) (e : q = pc + 1) (hc : c < 84) (hT : bTT c = some (35, len, ys)) (hn : x.toInt = (n : Int)) (hl : n < len) (hy : bDy (35, len, ys) n = some y) (hv : bYr 84 y (.ref j)) (hj : amIsSn hp (.ref j) = true)
    (hw : ∀ hp1, bHk 84 bTT hp1 → rV hp hp1 c n (.ref j) → xV d M q L st hp1 Q) : xV d M pc L (.ref j :: .int x :: .ref c :: st) hp Q := by
  obtain ⟨vs, g1, g2, g3, k1, k2⟩ := v_set hH (v := .ref j) hc hT hy hl hv
  refine xstep h (fun cl hl => ⟨cl, ?_, hl⟩) (hw _ k1 k2)
  obtain ⟨e1, e2⟩ := rw_in (m := vs.length) hn (by omega)
  subst e
  simp only [amDo, amStep, amASt, g1, e1, e2, hj, and_self, if_true, Option.map_some, id]
theorem xlald (q n : Nat) {c len : Nat} {x : Int32} (hH : bHk 84 bTT hp) (h : xI M pc .laload a b) (e : q = pc + 1) (hc : c < 84) (hT : bTT c = some (33, len, [.inr (.inl 1)])) (hn : x.toInt = (n : Int)) (hl : n < len) (hw : ∀ z : Int64, z.toInt = rJ hp c n → xV d M q L (.long z :: st) hp Q) : xV d M pc L (.int x :: .ref c :: st) hp Q := by
  obtain ⟨⟨t1, vs⟩, g1, g2, g3, g4⟩ := bHk_at hH hc hT
  have g2 : t1 = 33 := g2
  subst g2
  have g3 : vs.length = len := g3
  have hl2 : n < vs.length := by omega
  obtain ⟨y, k1, k2⟩ := g4 n vs[n] (List.getElem?_eq_getElem hl2)
  rw [show bDy (33, len, [.inr (.inl 1)]) n = some (.inr (.inl 1)) from rfl] at k1
  cases k1
  obtain ⟨w, ex⟩ := bT_J k2
  obtain ⟨e1, e2⟩ := rw_in (m := vs.length) hn hl2
  refine xstep h (fun cl hl => ⟨cl, ?_, hl⟩) (hw w ?_)
  · subst e
    simp [amDo, amStep, amALd, g1, e1, e2, amIsJ, List.getElem?_eq_getElem hl2, ex]
  · unfold rJ bFld
    rw [g1]
    dsimp only
    rw [List.getElem?_eq_getElem hl2, ex]
theorem xlast (q n : Nat) {c len : Nat} {x : Int32} {v : Int64} (hH : bHk 84 bTT hp) (h : xI M pc .lastore a b) (e : q = pc + 1) (hc : c < 84) (hT : bTT c = some (33, len, [.inr (.inl 1)])) (hn : x.toInt = (n : Int)) (hl : n < len)
    (hw : ∀ hp1, bHk 84 bTT hp1 → rV hp hp1 c n (.long v) → xV d M q L st hp1 Q) : xV d M pc L (.long v :: .int x :: .ref c :: st) hp Q := by
  obtain ⟨vs, g1, g2, g3, k1, k2⟩ := v_set hH (v := .long v) (y := .inr (.inl 1)) hc hT rfl hl bT_J1
  refine xstep h (fun cl hl => ⟨cl, ?_, hl⟩) (hw _ k1 k2)
  obtain ⟨e1, e2⟩ := rw_in (m := vs.length) hn (by omega)
  subst e
  simp only [amDo, amStep, amASt, g1, e1, e2, amIsJ, and_self, if_true, Option.map_some, id]
theorem xlldG (q : Nat) {i : Instr} {k : Nat} {x : Int64} (h : xI M pc i a b) (hi : (i = .lload k ∧ q = pc + 2) ∨ (∃ n : Fin 4, i = .lload_n n ∧ n = k ∧ q = pc + 1)) (l : lAt L k = some (some (.long x))) (hw : xV d M q L (.long x :: st) hp Q) : xV d M pc L st hp Q := by
  refine xstep h (fun cl hl => ⟨cl, ?_, hl⟩) hw
  have hg := (hl.2 k _ l).2
  rcases hi with ⟨rfl, rfl⟩ | ⟨n, rfl, rfl, rfl⟩
  · simp [amDo, amStep, amLd, hg, amIsJ]
  · simp [amDo, amStep, amLd, hg, amIsJ]
theorem xlld (q : Nat) {n : Fin 4} {x : Int64} (h : xI M pc (.lload_n n) a b) (e : q = pc + 1) (l : lAt L (n : Nat) = some (some (.long x))) (hw : xV d M q L (.long x :: st) hp Q) : xV d M pc L st hp Q :=
  xlldG q h (Or.inr ⟨n, rfl, rfl, e⟩) l hw
theorem xlstG (q : Nat) {i : Instr} {k : Nat} {x : Int64} (h : xI M pc i a b) (hi : (i = .lstore k ∧ q = pc + 2) ∨ (∃ n : Fin 4, i = .lstore_n n ∧ n = k ∧ q = pc + 1)) (hk : Nat.ble (k + 2) M.2.1 = true) (hw : xV d M q (qSet2 L k (.long x)) st hp Q) : xV d M pc L (.long x :: st) hp Q := by
  refine xstep h (fun cl hl => ⟨amSet2 cl k (.long x), ?_, lq_set2 hl k rfl⟩) hw
  have hk : k + 1 < M.2.1 := Nat.le_of_ble_eq_true hk
  rcases hi with ⟨rfl, rfl⟩ | ⟨n, rfl, rfl, rfl⟩
  · simp [amDo, amStep, amSt2, amIsJ, hk]
  · simp [amDo, amStep, amSt2, amIsJ, hk]
theorem xlst (q : Nat) {n : Fin 4} {x : Int64} (h : xI M pc (.lstore_n n) a b) (e : q = pc + 1) (hk : Nat.ble ((n : Nat) + 2) M.2.1 = true) (hw : xV d M q (qSet2 L (n : Nat) (.long x)) st hp Q) : xV d M pc L (.long x :: st) hp Q :=
  xlstG q h (Or.inr ⟨n, rfl, rfl, e⟩) hk hw
/-- a reference stored in a local -/
theorem xast (q : Nat) {n : Fin 4} {x : Nat} (h : xI M pc (.astore_n n) a b) (e : q = pc + 1) (hk : Nat.ble ((n : Nat) + 1) M.2.1 = true) (hx : amOk 84 (.ref x) = true) (hw : xV d M q (qSet L (n : Nat) (.ref x)) st hp Q) : xV d M pc L (.ref x :: st) hp Q := by
  refine xstep h (fun cl hl => ⟨amSet1 cl n (.ref x), ?_, lq_setV hl _ hx⟩) hw
  have hk : (n : Nat) < M.2.1 := Nat.le_of_ble_eq_true hk
  subst e
  simp [amDo, amStep, amSt1, isA_ref, hk]
theorem xnull (q : Nat) {i : Int} {x : Nat} (h : xI M pc (.ifnull i) a b) (e : q = pc + 3) (hw : xV d M q L st hp Q) : xV d M pc L (.ref x :: st) hp Q := by
  refine xstep h (fun cl hl => ⟨cl, ?_, hl⟩) hw
  subst e
  simp [amDo, amStep]
theorem xnonnull {i : Int} {x : Nat} (h : xI M pc (.ifnonnull i) a b) (hw : xV d M a L st hp Q) : xV d M pc L (.ref x :: st) hp Q := by
  refine xstep h (fun cl hl => ⟨cl, ?_, hl⟩) hw
  simp [amDo, amStep]
theorem xlcst (q : Nat) (m : Int) {n : Fin 2} (h : xI M pc (.lconst n) a b) (e : q = pc + 1) (hm : (Int64.ofNat (n : Nat)).toInt = m) (hw : ∀ z : Int64, z.toInt = m → xV d M q L (.long z :: st) hp Q) : xV d M pc L st hp Q := by
  refine xstep h (fun cl hl => ⟨cl, ?_, hl⟩) (hw _ hm)
  subst e
  simp [amDo, amStep]
theorem xldc2 (q : Nat) (m : Int) {i : _} (h : xI M pc (.ldc2_w i) a b) (e : q = pc + 3) (hm : (Int64.ofNat a).toInt = m) (hw : ∀ z : Int64, z.toInt = m → xV d M q L (.long z :: st) hp Q) : xV d M pc L st hp Q := by
  refine xstep h (fun cl hl => ⟨cl, ?_, hl⟩) (hw _ hm)
  subst e
  simp [amDo, amStep]
theorem xl2i (q : Nat) {x : Int64} (h : xI M pc .l2i a b) (e : q = pc + 1) (hw : xV d M q L (.int x.toInt32 :: st) hp Q) : xV d M pc L (.long x :: st) hp Q := by
  refine xstep h (fun cl hl => ⟨cl, ?_, hl⟩) hw
  subst e
  simp [amDo, amStep, amJ]
theorem xlneg (q : Nat) {x : Int64} (h : xI M pc .lneg a b) (e : q = pc + 1) (hw : xV d M q L (.long (-x) :: st) hp Q) : xV d M pc L (.long x :: st) hp Q := by
  refine xstep h (fun cl hl => ⟨cl, ?_, hl⟩) hw
  subst e
  simp [amDo, amStep, amJ]
theorem xladd (q : Nat) {x y : Int64} (h : xI M pc .ladd a b) (e : q = pc + 1) (hw : xV d M q L (.long (x + y) :: st) hp Q) : xV d M pc L (.long y :: .long x :: st) hp Q := by
  refine xstep h (fun cl hl => ⟨cl, ?_, hl⟩) hw
  subst e
  simp [amDo, amStep, amLL]
theorem xlsub (q : Nat) {x y : Int64} (h : xI M pc .lsub a b) (e : q = pc + 1) (hw : xV d M q L (.long (x - y) :: st) hp Q) : xV d M pc L (.long y :: .long x :: st) hp Q := by
  refine xstep h (fun cl hl => ⟨cl, ?_, hl⟩) hw
  subst e
  simp [amDo, amStep, amLL]
theorem xland (q : Nat) {x y : Int64} (h : xI M pc .land a b) (e : q = pc + 1) (hw : xV d M q L (.long (x &&& y) :: st) hp Q) : xV d M pc L (.long y :: .long x :: st) hp Q := by
  refine xstep h (fun cl hl => ⟨cl, ?_, hl⟩) hw
  subst e
  simp [amDo, amStep, amLL]
theorem xlor (q : Nat) {x y : Int64} (h : xI M pc .lor a b) (e : q = pc + 1) (hw : xV d M q L (.long (x ||| y) :: st) hp Q) : xV d M pc L (.long y :: .long x :: st) hp Q := by
  refine xstep h (fun cl hl => ⟨cl, ?_, hl⟩) hw
  subst e
  simp [amDo, amStep, amLL]
theorem xlcmp (q : Nat) {x y : Int64} (h : xI M pc .lcmp a b) (e : q = pc + 1) (hw : ∀ z : Int32, ((z.toInt = -1 ∧ x.toInt < y.toInt) ∨ (z.toInt = 0 ∧ x.toInt = y.toInt) ∨ (z.toInt = 1 ∧ y.toInt < x.toInt)) → xV d M q L (.int z :: st) hp Q) : xV d M pc L (.long y :: .long x :: st) hp Q := by
  refine xstep h (fun cl hl => ⟨cl, ?_, hl⟩) (hw (lg_cmp x y) (lg_cmp_t x y))
  subst e
  simp [amDo, amStep, amLL]
theorem xlshl (q : Nat) {x : Int64} {y : Int32} (h : xI M pc .lshl a b) (e : q = pc + 1) (hw : xV d M q L (.long (x <<< (y.toInt64 &&& 63)) :: st) hp Q) : xV d M pc L (.int y :: .long x :: st) hp Q := by
  refine xstep h (fun cl hl => ⟨cl, ?_, hl⟩) hw
  subst e
  simp [amDo, amStep, amLI]
theorem xretJ {x : Int64} (h : xI M pc .lreturn a b) (hr : M.2.2.2.2.1 = some .long) (hQ : Q (.inl (some (.long x))) hp) : xV d M pc L [.long x] hp Q := by
  intro cl hl
  obtain ⟨hu, r, hr2⟩ := h
  rw [hr2]
  refine bWp_ret (q := (pc, .lreturn, a, b)) ?_ hQ
  simp [amDo, amRetV, hr, narrow]
end XJ
/-- arguments with their places: a long takes two -/
noncomputable def qArgs : List Value → List (Option Value)
  | [] => []
  | v :: r => bif isJ (some v) then some v :: none :: qArgs r else some v :: qArgs r
noncomputable def qAv (av : List Value) : Bool := av.all (fun v => amOk 84 v)
theorem qAv_ok : ∀ (av : List Value) (i : Nat), qAv av = true → amOkL 84 (lv_args i av) = true
  | [], i, _ => rfl
  | u :: r, i, h => by
    unfold qAv at h
    rw [List.all_cons] at h
    simp only [Bool.and_eq_true] at h
    unfold lv_args amOkL
    rw [List.all_cons]
    exact Bool.and_eq_true_iff.mpr ⟨h.1, qAv_ok r _ h.2⟩
theorem qAv_get : ∀ (av : List Value) (i : Nat), ∀ k v, lAt (qArgs av) k = some (some v) → amGet (lv_args i av) (i + k) = some v
  | [], i, k, v, e => by cases e
  | u :: r, i, k, v, e => by
    unfold qArgs at e
    unfold lv_args amGet
    dsimp only
    cases hj : isJ (some u) with
    | true =>
      rw [hj] at e
      have hc : u.category = 2 := by cases u <;> first | rfl | cases hj
      match k, e with
      | 0, e => cases e; rw [if_pos (by omega)]
      | 1, e => cases e
      | k + 2, e =>
        rw [if_neg (by omega), hc, show i + (k + 2) = i + 2 + k by omega]
        exact qAv_get r (i + 2) k v e
    | false =>
      rw [hj] at e
      have hc := isJ_cat hj
      match k, e with
      | 0, e => cases e; rw [if_pos (by omega)]
      | k + 1, e =>
        rw [if_neg (by omega), hc, show i + (k + 1) = i + 1 + k by omega]
        exact qAv_get r (i + 1) k v e
theorem xinJ {d k : Nat} {M : amM} {av : List Value} {hp : amH} {R : xQ} (hM : amGG k = some M) (h0 : amSeek M.1 0 = M.1) (ha : qAv av = true) (hw : xV d M 0 (qArgs av) [] hp R) : xK d k av hp R := by
  refine ⟨M, hM, ?_⟩
  have := hw (lv_args 0 av) ⟨qAv_ok av 0 ha, fun k v e => by
    have g2 := qAv_get av 0 k v e
    rw [Nat.zero_add] at g2
    exact ⟨trivial, g2⟩⟩
  rw [h0] at this
  exact this
end
/-! ##### 19.m.033.30b ##### -/
section
/-! ===== longs as sets of numbers below 62 ===== -/
noncomputable def jN (x : Int64) : Nat := x.toBitVec.toNat
theorem jN_t {x : Int64} {n : Nat} (h : x.toInt = (n : Int)) : jN x = n ∧ n < 9223372036854775808 := by
  have e : x.toInt = x.toBitVec.toInt := rfl
  have l := x.toBitVec.isLt
  unfold jN
  rw [e, BitVec.toInt_eq_toNat_cond] at h
  split at h
  · omega
  · omega
theorem t_jN {x : Int64} (h : jN x < 9223372036854775808) : x.toInt = ((jN x : Nat) : Int) := by
  have e : x.toInt = x.toBitVec.toInt := rfl
  unfold jN at *
  rw [e, BitVec.toInt_eq_toNat_cond, if_pos (by omega)]
theorem j_or {x y : Int64} {a b : Nat} (hx : x.toInt = (a : Int)) (hy : y.toInt = (b : Int)) : (x ||| y).toInt = ((a ||| b : Nat) : Int) := by
  obtain ⟨e1, l1⟩ := jN_t hx
  obtain ⟨e2, l2⟩ := jN_t hy
  have l : a ||| b < 2 ^ 63 := Nat.or_lt_two_pow (by omega) (by omega)
  have e3 : jN (x ||| y) = a ||| b := by
    unfold jN at *
    rw [Int64.toBitVec_or, BitVec.toNat_or, e1, e2]
  rw [t_jN (by rw [e3]; omega), e3]
theorem j_and {x y : Int64} {a b : Nat} (hx : x.toInt = (a : Int)) (hy : y.toInt = (b : Int)) : (x &&& y).toInt = ((a &&& b : Nat) : Int) := by
  obtain ⟨e1, l1⟩ := jN_t hx
  obtain ⟨e2, l2⟩ := jN_t hy
  have l : a &&& b ≤ a := Nat.and_le_left
  have e3 : jN (x &&& y) = a &&& b := by
    unfold jN at *
    rw [Int64.toBitVec_and, BitVec.toNat_and, e1, e2]
  rw [t_jN (by rw [e3]; omega), e3]
theorem j_sub {x y : Int64} {a b : Nat} (hx : x.toInt = (a : Int)) (hy : y.toInt = (b : Int)) (h : b ≤ a) : (x - y).toInt = ((a - b : Nat) : Int) := by
  obtain ⟨e1, l1⟩ := jN_t hx
  rw [Int64.toInt_sub, hx, hy]
  have : ((a : Int) - (b : Int)) = ((a - b : Nat) : Int) := by omega
  rw [this]
  exact Int.bmod_eq_of_le (by omega) (by omega)
theorem j_sh : ∀ k : Fin 62, ((Int32.ofNat k.1).toInt64 &&& 63).toBitVec.smod 64 = BitVec.ofNat 64 k.1 := by decide
theorem j_shl {o : Int64} {c : Int32} {k : Nat} (ho : o.toInt = 1) (hc : c.toInt = (k : Int)) (hk : k < 62) : (o <<< (c.toInt64 &&& 63)).toInt = ((2 ^ k : Nat) : Int) := by
  obtain ⟨e1, -⟩ := jN_t (n := 1) ho
  have e2 : (c.toInt64 &&& 63).toBitVec.smod 64 = BitVec.ofNat 64 k := by
    have : c = Int32.ofNat k := Int32.toInt_inj.mp (by rw [hc, Int32.toInt_ofNat_of_lt (by omega)])
    rw [this]
    exact j_sh ⟨k, hk⟩
  have h1 : 2 ^ k ≤ 2 ^ 61 := Nat.pow_le_pow_right (by decide) (by omega)
  have e3 : jN (o <<< (c.toInt64 &&& 63)) = 2 ^ k := by
    unfold jN at *
    rw [show (o <<< (c.toInt64 &&& 63)).toBitVec = o.toBitVec <<< ((c.toInt64 &&& 63).toBitVec.smod 64) from rfl, e2, BitVec.shiftLeft_eq', BitVec.toNat_shiftLeft, e1, BitVec.toNat_ofNat, Nat.mod_eq_of_lt (show k < 2 ^ 64 by omega), Nat.shiftLeft_eq, Nat.one_mul, Nat.mod_eq_of_lt (by omega)]
  rw [t_jN (by rw [e3]; omega), e3]
end
