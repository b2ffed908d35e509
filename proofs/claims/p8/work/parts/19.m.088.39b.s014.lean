theorem l220x {d V q : Nat} {T : sT} {hp0 : amH} {R : xQ} {a : Int32} (hT : sOk V T) (hL0 : rlN hp0 T 225) (hQ0 : rqN hp0 T 42875) (hq : q < nQ T) (ha : a.toInt = (q : Int))
    (hR : ∀ (w : Int32) (v3 : Option Value) hp1, bHk 84 bTT hp1 → bFr [(77, 999)] hp0 hp1 → (∀ j, j < 24 → rN hp1 77 j = ((rpv T (cQ2 T q) j : Nat) : Int)) → xV (d + 2) am_m220 139 [some (.ref 66), some (.int a), some (.int w), v3] [] hp1 R) :
    ∀ (jj k : Nat) (w : Int32) (v3 : Option Value) (hp : amH), w.toInt = (k : Int) → k + jj = 4 → bHk 84 bTT hp → bFr [(77, 999)] hp0 hp → (∀ j, j < 6 * k → rN hp 77 j = ((rpv T (cQ2 T q) j : Nat) : Int)) → xV (d + 2) am_m220 2 [some (.ref 66), some (.int a), some (.int w), v3] [] hp R := by
  have h105 := q105 hT
  have l35 := trL_35 hT 225
  have hq2 : q < (fL (qdB T) 42875).length := hq
  have hV := hT.2.1
  intro jj
  induction jj with
  | zero =>
    intro k w v3 hp hw hj hH hF hP
    have et : k = 4 := by omega
    subst et
    refine xild 3 ⟨u220, _, rfl⟩ rfl rfl ?_
    refine xcst 4 (4) ⟨u220, _, rfl⟩ rfl (by decide) (fun z3 h3 => ?_)
    refine xcmp_ge 7 ⟨u220, _, rfl⟩ rfl (fun c4 => ?_) (fun c4 => ?_)
    · exact hR _ _ hp hH hF hP
    · omega
  | succ jj ih =>
    intro k w v3 hp hw hj hH hF hP
    have hL : rlN hp T 225 := rlN_fr hL0 (r_fr hF rfl) (fun _ => r_fr hF rfl) (fun _ => r_fr hF rfl) (fun _ => r_fr hF rfl) (fun _ => r_fr hF rfl)
    have hQ : rqN hp T 42875 := rqN_fr hQ0 (r_fr hF rfl) (fun _ => r_fr hF rfl)
    obtain ⟨hk, -⟩ := rq_get hT hQ hq
    have kk := hk k (by omega)
    obtain ⟨l1, l2, l3, l4⟩ := qL_lt hT hq k (by omega)
    obtain ⟨ho, -⟩ := op_all hT hq (show k < 4 by omega)
    obtain ⟨r1, r2, r3⟩ := c3_r hT hL l1
    obtain ⟨p0, p1, p2, p3, p4, p5⟩ := rpv_s T (cQ2 T q) k
    obtain ⟨a0, b0, d0⟩ := ho 0 (by omega)
    obtain ⟨a1, b1, d1⟩ := ho 1 (by omega)
    obtain ⟨a2, b2, d2⟩ := ho 2 (by omega)
    generalize (qL T (cQ2 T q)).getD k 0 = t at *
    refine xild 3 ⟨u220, _, rfl⟩ rfl rfl ?_
    refine xcst 4 (4) ⟨u220, _, rfl⟩ rfl (by decide) (fun z3 h3 => ?_)
    refine xcmp_ge 7 ⟨u220, _, rfl⟩ rfl (fun c4 => ?_) (fun c4 => ?_)
    · omega
    · refine xald 8 ⟨u220, _, rfl⟩ rfl rfl ?_
      refine xgetR 11 76 hH ⟨u220, _, rfl⟩ rfl rfl ?_
      refine xcst 12 (4) ⟨u220, _, rfl⟩ rfl (by decide) (fun z11 h11 => ?_)
      refine xild 13 ⟨u220, _, rfl⟩ rfl rfl ?_
      refine xmul 14 (4 * Int32.toInt a) ⟨u220, _, rfl⟩ rfl (by rw [h11]) (by omega) (by omega) (fun z13 h13 => ?_)
      refine xild 15 ⟨u220, _, rfl⟩ rfl rfl ?_
      refine xadd 16 _ ⟨u220, _, rfl⟩ rfl rfl (by omega) (by omega) (fun z15 h15 => ?_)
      refine xiald 17 (z15).toInt.toNat hH ⟨u220, _, rfl⟩ rfl (by decide) rfl (by omega) (by omega) (fun z16 h16 => ?_)
      rw [show z15.toInt.toNat = 4 * q + k by omega, kk] at h16
      refine xist 18 ⟨u220, _, rfl⟩ rfl rfl ?_
      refine xald 19 ⟨u220, _, rfl⟩ rfl rfl ?_
      refine xgetR 22 77 hH ⟨u220, _, rfl⟩ rfl rfl ?_
      refine xbip 24 (6) ⟨u220, _, rfl⟩ rfl (by decide) (fun z22 h22 => ?_)
      refine xild 25 ⟨u220, _, rfl⟩ rfl rfl ?_
      refine xmul 26 (6 * Int32.toInt w) ⟨u220, _, rfl⟩ rfl (by rw [h22]) (by omega) (by omega) (fun z25 h25 => ?_)
      refine xald 27 ⟨u220, _, rfl⟩ rfl rfl ?_
      refine xgetR 30 72 hH ⟨u220, _, rfl⟩ rfl rfl ?_
      refine xild 31 ⟨u220, _, rfl⟩ rfl rfl ?_
      refine xiald 32 (z16).toInt.toNat hH ⟨u220, _, rfl⟩ rfl (by decide) rfl (by omega) (by omega) (fun z31 h31 => ?_)
      rw [show z16.toInt.toNat = t by omega, r1] at h31
      refine xiast 33 (z25).toInt.toNat hH ⟨u220, _, rfl⟩ rfl (by decide) rfl (by omega) (by omega) (by omega) (by omega) (fun hp32 hH32 U32 => ?_)
      have s32 := U32.1
      refine xald 34 ⟨u220, _, rfl⟩ rfl rfl ?_
      refine xgetR 37 77 hH32 ⟨u220, _, rfl⟩ rfl rfl ?_
      refine xbip 39 (6) ⟨u220, _, rfl⟩ rfl (by decide) (fun z37 h37 => ?_)
      refine xild 40 ⟨u220, _, rfl⟩ rfl rfl ?_
      refine xmul 41 (6 * Int32.toInt w) ⟨u220, _, rfl⟩ rfl (by rw [h37]) (by omega) (by omega) (fun z40 h40 => ?_)
      refine xcst 42 (1) ⟨u220, _, rfl⟩ rfl (by decide) (fun z41 h41 => ?_)
      refine xadd 43 _ ⟨u220, _, rfl⟩ rfl rfl (by omega) (by omega) (fun z42 h42 => ?_)
      refine xald 44 ⟨u220, _, rfl⟩ rfl rfl ?_
      refine xgetR 47 73 hH32 ⟨u220, _, rfl⟩ rfl rfl ?_
      refine xild 48 ⟨u220, _, rfl⟩ rfl rfl ?_
      refine xiald 49 (z16).toInt.toNat hH32 ⟨u220, _, rfl⟩ rfl (by decide) rfl (by omega) (by omega) (fun z48 h48 => ?_)
      rw [show z16.toInt.toNat = t by omega, rU_ne U32 (by omega), r2] at h48
      refine xiast 50 (z42).toInt.toNat hH32 ⟨u220, _, rfl⟩ rfl (by decide) rfl (by omega) (by omega) (by omega) (by omega) (fun hp49 hH49 U49 => ?_)
      have s49 := U49.1
      refine xald 51 ⟨u220, _, rfl⟩ rfl rfl ?_
      refine xgetR 54 77 hH49 ⟨u220, _, rfl⟩ rfl rfl ?_
      refine xbip 56 (6) ⟨u220, _, rfl⟩ rfl (by decide) (fun z54 h54 => ?_)
      refine xild 57 ⟨u220, _, rfl⟩ rfl rfl ?_
      refine xmul 58 (6 * Int32.toInt w) ⟨u220, _, rfl⟩ rfl (by rw [h54]) (by omega) (by omega) (fun z57 h57 => ?_)
      refine xcst 59 (2) ⟨u220, _, rfl⟩ rfl (by decide) (fun z58 h58 => ?_)
      refine xadd 60 _ ⟨u220, _, rfl⟩ rfl rfl (by omega) (by omega) (fun z59 h59 => ?_)
      refine xald 61 ⟨u220, _, rfl⟩ rfl rfl ?_
      refine xgetR 64 74 hH49 ⟨u220, _, rfl⟩ rfl rfl ?_
      refine xild 65 ⟨u220, _, rfl⟩ rfl rfl ?_
      refine xiald 66 (z16).toInt.toNat hH49 ⟨u220, _, rfl⟩ rfl (by decide) rfl (by omega) (by omega) (fun z65 h65 => ?_)
      rw [show z16.toInt.toNat = t by omega, rU_ne U49 (by omega), rU_ne U32 (by omega), r3] at h65
      refine xiast 67 (z59).toInt.toNat hH49 ⟨u220, _, rfl⟩ rfl (by decide) rfl (by omega) (by omega) (by omega) (by omega) (fun hp66 hH66 U66 => ?_)
      have s66 := U66.1
      have F66 : bFr [(77, 999)] hp hp66 := ((rU_fr U32 (bIn_all (by decide) _)).trans (rU_fr U49 (bIn_all (by decide) _))).trans (rU_fr U66 (bIn_all (by decide) _))
      have hL66 : rlN hp66 T 225 := rlN_fr hL (r_fr F66 rfl) (fun _ => r_fr F66 rfl) (fun _ => r_fr F66 rfl) (fun _ => r_fr F66 rfl) (fun _ => r_fr F66 rfl)
      have hQ66 : rqN hp66 T 42875 := rqN_fr hQ (r_fr F66 rfl) (fun _ => r_fr F66 rfl)
      refine xald 68 ⟨u220, _, rfl⟩ rfl rfl ?_
      refine xgetR 71 77 hH66 ⟨u220, _, rfl⟩ rfl rfl ?_
      refine xbip 73 (6) ⟨u220, _, rfl⟩ rfl (by decide) (fun z71 h71 => ?_)
      refine xild 74 ⟨u220, _, rfl⟩ rfl rfl ?_
      refine xmul 75 (6 * Int32.toInt w) ⟨u220, _, rfl⟩ rfl (by rw [h71]) (by omega) (by omega) (fun z74 h74 => ?_)
      refine xcst 76 (3) ⟨u220, _, rfl⟩ rfl (by decide) (fun z75 h75 => ?_)
      refine xadd 77 _ ⟨u220, _, rfl⟩ rfl rfl (by omega) (by omega) (fun z76 h76 => ?_)
      refine xald 78 ⟨u220, _, rfl⟩ rfl rfl ?_
      refine xild 79 ⟨u220, _, rfl⟩ rfl rfl ?_
      refine xald 80 ⟨u220, _, rfl⟩ rfl rfl ?_
      refine xgetR 83 72 hH66 ⟨u220, _, rfl⟩ rfl rfl ?_
      refine xild 84 ⟨u220, _, rfl⟩ rfl rfl ?_
      refine xiald 85 (z16).toInt.toNat hH66 ⟨u220, _, rfl⟩ rfl (by decide) rfl (by omega) (by omega) (fun z84 h84 => ?_)
      rw [show z16.toInt.toNat = t by omega, r_fr F66 rfl, r1] at h84
      refine xcall 88 [.ref 66, .int _, .int _] [.int _, .ref 77] hH66 ⟨u220, _, rfl⟩ rfl rfl rfl rfl rfl (k_opE hH66 hT hL66 hQ66 hq ha h84 (by omega) b0 (by omega) (fun z85 h85 => ⟨_, rfl, ?_⟩))
      refine xiast 89 (z76).toInt.toNat hH66 ⟨u220, _, rfl⟩ rfl (by decide) rfl (by omega) (by omega) (by omega) (by omega) (fun hp88 hH88 U88 => ?_)
      have s88 := U88.1
      have F88 : bFr [(77, 999)] hp hp88 := F66.trans (rU_fr U88 (bIn_all (by decide) _))
      have hL88 : rlN hp88 T 225 := rlN_fr hL (r_fr F88 rfl) (fun _ => r_fr F88 rfl) (fun _ => r_fr F88 rfl) (fun _ => r_fr F88 rfl) (fun _ => r_fr F88 rfl)
      have hQ88 : rqN hp88 T 42875 := rqN_fr hQ (r_fr F88 rfl) (fun _ => r_fr F88 rfl)
      refine xald 90 ⟨u220, _, rfl⟩ rfl rfl ?_
      refine xgetR 93 77 hH88 ⟨u220, _, rfl⟩ rfl rfl ?_
      refine xbip 95 (6) ⟨u220, _, rfl⟩ rfl (by decide) (fun z93 h93 => ?_)
      refine xild 96 ⟨u220, _, rfl⟩ rfl rfl ?_
      refine xmul 97 (6 * Int32.toInt w) ⟨u220, _, rfl⟩ rfl (by rw [h93]) (by omega) (by omega) (fun z96 h96 => ?_)
      refine xcst 98 (4) ⟨u220, _, rfl⟩ rfl (by decide) (fun z97 h97 => ?_)
      refine xadd 99 _ ⟨u220, _, rfl⟩ rfl rfl (by omega) (by omega) (fun z98 h98 => ?_)
      refine xald 100 ⟨u220, _, rfl⟩ rfl rfl ?_
      refine xild 101 ⟨u220, _, rfl⟩ rfl rfl ?_
      refine xald 102 ⟨u220, _, rfl⟩ rfl rfl ?_
      refine xgetR 105 73 hH88 ⟨u220, _, rfl⟩ rfl rfl ?_
      refine xild 106 ⟨u220, _, rfl⟩ rfl rfl ?_
      refine xiald 107 (z16).toInt.toNat hH88 ⟨u220, _, rfl⟩ rfl (by decide) rfl (by omega) (by omega) (fun z106 h106 => ?_)
      rw [show z16.toInt.toNat = t by omega, r_fr F88 rfl, r2] at h106
      refine xcall 110 [.ref 66, .int _, .int _] [.int _, .ref 77] hH88 ⟨u220, _, rfl⟩ rfl rfl rfl rfl rfl (k_opE hH88 hT hL88 hQ88 hq ha h106 (by omega) b1 (by omega) (fun z107 h107 => ⟨_, rfl, ?_⟩))
      refine xiast 111 (z98).toInt.toNat hH88 ⟨u220, _, rfl⟩ rfl (by decide) rfl (by omega) (by omega) (by omega) (by omega) (fun hp110 hH110 U110 => ?_)
      have s110 := U110.1
      have F110 : bFr [(77, 999)] hp hp110 := F88.trans (rU_fr U110 (bIn_all (by decide) _))
      have hL110 : rlN hp110 T 225 := rlN_fr hL (r_fr F110 rfl) (fun _ => r_fr F110 rfl) (fun _ => r_fr F110 rfl) (fun _ => r_fr F110 rfl) (fun _ => r_fr F110 rfl)
      have hQ110 : rqN hp110 T 42875 := rqN_fr hQ (r_fr F110 rfl) (fun _ => r_fr F110 rfl)
      refine xald 112 ⟨u220, _, rfl⟩ rfl rfl ?_
      refine xgetR 115 77 hH110 ⟨u220, _, rfl⟩ rfl rfl ?_
      refine xbip 117 (6) ⟨u220, _, rfl⟩ rfl (by decide) (fun z115 h115 => ?_)
      refine xild 118 ⟨u220, _, rfl⟩ rfl rfl ?_
      refine xmul 119 (6 * Int32.toInt w) ⟨u220, _, rfl⟩ rfl (by rw [h115]) (by omega) (by omega) (fun z118 h118 => ?_)
      refine xcst 120 (5) ⟨u220, _, rfl⟩ rfl (by decide) (fun z119 h119 => ?_)
      refine xadd 121 _ ⟨u220, _, rfl⟩ rfl rfl (by omega) (by omega) (fun z120 h120 => ?_)
      refine xald 122 ⟨u220, _, rfl⟩ rfl rfl ?_
      refine xild 123 ⟨u220, _, rfl⟩ rfl rfl ?_
      refine xald 124 ⟨u220, _, rfl⟩ rfl rfl ?_
      refine xgetR 127 74 hH110 ⟨u220, _, rfl⟩ rfl rfl ?_
      refine xild 128 ⟨u220, _, rfl⟩ rfl rfl ?_
      refine xiald 129 (z16).toInt.toNat hH110 ⟨u220, _, rfl⟩ rfl (by decide) rfl (by omega) (by omega) (fun z128 h128 => ?_)
      rw [show z16.toInt.toNat = t by omega, r_fr F110 rfl, r3] at h128
      refine xcall 132 [.ref 66, .int _, .int _] [.int _, .ref 77] hH110 ⟨u220, _, rfl⟩ rfl rfl rfl rfl rfl (k_opE hH110 hT hL110 hQ110 hq ha h128 (by omega) b2 (by omega) (fun z129 h129 => ⟨_, rfl, ?_⟩))
      refine xiast 133 (z120).toInt.toNat hH110 ⟨u220, _, rfl⟩ rfl (by decide) rfl (by omega) (by omega) (by omega) (by omega) (fun hp132 hH132 U132 => ?_)
      have s132 := U132.1
      refine xinc 136 (1) ⟨u220, _, rfl⟩ rfl rfl rfl (by decide) (by omega) (by omega) (fun z133 h133 => ?_)
      refine xgoto ⟨u220, _, rfl⟩ ?_
      refine ih (k + 1) z133 _ hp132 (by omega) (by omega) hH132 (hF.trans (F110.trans (rU_fr U132 (bIn_all (by decide) _)))) (fun j hj2 => ?_)
      have e132 := U132.1
      have e110 := U110.1
      have e88 := U88.1
      have e66 := U66.1
      have e49 := U49.1
      have e32 := U32.1
      by_cases j0 : j < 6 * k
      · rw [rU_ne U132 (by omega), rU_ne U110 (by omega), rU_ne U88 (by omega), rU_ne U66 (by omega), rU_ne U49 (by omega), rU_ne U32 (by omega)]
        exact hP j j0
      · have : j = 6 * k ∨ j = 6 * k + 1 ∨ j = 6 * k + 2 ∨ j = 6 * k + 3 ∨ j = 6 * k + 4 ∨ j = 6 * k + 5 := by omega
        rcases this with e | e | e | e | e | e
        · rw [rU_ne U132 (by omega), rU_ne U110 (by omega), rU_ne U88 (by omega), rU_ne U66 (by omega), rU_ne U49 (by omega), show j = z25.toInt.toNat by omega, e32, show z25.toInt.toNat = 6 * k by omega, p0]
          exact h31
        · rw [rU_ne U132 (by omega), rU_ne U110 (by omega), rU_ne U88 (by omega), rU_ne U66 (by omega), show j = z42.toInt.toNat by omega, e49, show z42.toInt.toNat = 6 * k + 1 by omega, p1]
          exact h48
        · rw [rU_ne U132 (by omega), rU_ne U110 (by omega), rU_ne U88 (by omega), show j = z59.toInt.toNat by omega, e66, show z59.toInt.toNat = 6 * k + 2 by omega, p2]
          exact h65
        · rw [rU_ne U132 (by omega), rU_ne U110 (by omega), show j = z76.toInt.toNat by omega, e88, show z76.toInt.toNat = 6 * k + 3 by omega, p3]
          exact h85
        · rw [rU_ne U132 (by omega), show j = z98.toInt.toNat by omega, e110, show z98.toInt.toNat = 6 * k + 4 by omega, p4]
          exact h107
        · rw [show j = z120.toInt.toNat by omega, e132, show z120.toInt.toNat = 6 * k + 5 by omega, p5]
          exact h129
