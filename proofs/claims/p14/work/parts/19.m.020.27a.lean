/-! ##### 19.m.020.27a ##### -/
section
/-! ===== the text's bytes, the same on both sides ===== -/
/-- the byte j of a word -/
noncomputable def byv (x : Int32) (j : Nat) : Int := (x >>> (Int32.ofInt (24 - 8 * (j : Int)) &&& 31)).toInt % 256
theorem i_ofI {k : Int32} {m : Int} (h : k.toInt = m) : k = Int32.ofInt m := by rw [← h, Int32.ofInt_toInt]
theorem bmod_256 (x : Int) : x.bmod 256 % 256 = x % 256 := by
  unfold Int.bmod
  dsimp only
  split <;> omega
theorem nar_256 (x : Int32) : (vp_nar .byte x).toInt % 256 = x.toInt % 256 := by
  have e : (vp_nar .byte x).toInt = x.toInt.bmod 256 := by
    show (x.toInt8.toInt32).toInt = _
    rw [Int8.toInt_toInt32, Int32.toInt_toInt8]
  rw [e, bmod_256]
section XBE
variable {M : amM} {pc a b d : Nat} {L : List (Option Value)} {st : List Value} {hp : amH} {Q : xQ}
theorem xi2bE (q : Nat) {x : Int32} (h : xI M pc .i2b a b) (e : q = pc + 1) (hw : ∀ z : Int32, z.toInt % 256 = x.toInt % 256 → xV d M q L (.int z :: st) hp Q) : xV d M pc L (.int x :: st) hp Q := by
  refine xstep h (fun cl hl => ⟨cl, ?_, hl⟩) (hw x.toInt8.toInt32 (nar_256 x))
  subst e
  simp [amDo, amStep, amI]
theorem xbastE (q m : Nat) {x v : Int32} (hH : bHk 84 bTT hp) (h : xI M pc .bastore a b) (e : q = pc + 1) (hn : x.toInt = (m : Int)) (hl : m < 600)
    (hw : ∀ hp1, bHk 84 bTT hp1 → bFr [(2, 999)] hp hp1 → rN hp1 2 m % 256 = v.toInt % 256 → (∀ k, ¬ k = m → rN hp1 2 k = rN hp 2 k) → xV d M q L st hp1 Q) : xV d M pc L (.int v :: .int x :: .ref 2 :: st) hp Q := by
  obtain ⟨z, z1, z2, z3⟩ := bNarB_s v
  have z4 : z = vp_nar .byte v := by cases z1; rfl
  have hy : bDy (34, 600, [.inl (2147483520, 2147483775)]) m = some (.inl (2147483520, 2147483775)) := rfl
  obtain ⟨vs, g1, g2, -⟩ := x_fI hH (c := 2) (by decide) rfl hy hl
  obtain ⟨k1, k2⟩ := x_set hH (x := z) (c := 2) rfl g1 g2 hy z2 z3 (by decide)
  obtain ⟨e1, e2⟩ := rw_in (m := vs.length) hn g2
  refine xstep h (fun cl hl => ⟨cl, ?_, hl⟩) (hw _ k1 (rU_fr k2 (bIn_all (by decide) _)) (by rw [k2.1, z4]; exact nar_256 v) (fun k hk => rU_ne k2 (by omega)))
  subst e
  simp only [amDo, amStep, amASt, g1, e2, e1, amIsI, z1, and_self, if_true, Option.map_some]
end XBE
theorem l76E {d : Nat} {hp0 : amH} {R : xQ} {x : Int32} {n : Nat} (h0 : rN hp0 1 0 = (n : Int)) (hn : n ≤ 596) (hR : ∀ hp1, bHk 84 bTT hp1 → bFr wTx hp0 hp1 → rN hp1 1 0 = (n : Int) + 4 → (∀ k, k < n → rN hp1 2 k = rN hp0 2 k) → (∀ j, j < 4 → rN hp1 2 (n + j) % 256 = byv x j) → R (.inl none) hp1) :
    ∀ (jj j : Nat) (k : Int32) (hp : amH), j + jj = 4 → k.toInt = 8 * (jj : Int) - 8 → bHk 84 bTT hp → bFr wTx hp0 hp → rN hp 1 0 = (n : Int) + (j : Int) → (∀ k, k < n → rN hp 2 k = rN hp0 2 k) → (∀ i, i < j → rN hp 2 (n + i) % 256 = byv x i) → xV d am_m76 3 [some (.ref 1), some (.int x), some (.int k)] [] hp R := by
  intro jj
  induction jj with
  | zero =>
    intro j k hp hj hk hH hF h1 h2 h3
    refine xild 4 ⟨u76, _, rfl⟩ rfl rfl ?_
    refine xif_lt 7 ⟨u76, _, rfl⟩ rfl (fun c4 => ?_) (fun c4 => ?_)
    · exact xretV ⟨u76, _, rfl⟩ rfl (hR hp hH hF (by omega) h2 (fun i hi => h3 i (by omega)))
    · omega
  | succ jj ih =>
    intro j k hp hj hk hH hF h1 h2 h3
    have b1 := b10 hH
    have ek := i_ofI (m := 24 - 8 * (j : Int)) (by omega : k.toInt = 24 - 8 * (j : Int))
    refine xild 4 ⟨u76, _, rfl⟩ rfl rfl ?_
    refine xif_lt 7 ⟨u76, _, rfl⟩ rfl (fun c4 => ?_) (fun c4 => ?_)
    · omega
    · refine xald 8 ⟨u76, _, rfl⟩ rfl rfl ?_
      refine xgetC 11 hH ⟨u76, _, rfl⟩ rfl (by decide) (by decide) rfl rfl (by decide) (fun z8 h8 => ?_)
      refine xald 12 ⟨u76, _, rfl⟩ rfl rfl ?_
      refine xgetD 15 2 hH ⟨u76, _, rfl⟩ rfl (by decide) (by decide) rfl rfl (by decide) ?_
      refine xlenB 16 hH ⟨u76, _, rfl⟩ rfl (fun z15 h15 => ?_)
      refine xcmp_ge 19 ⟨u76, _, rfl⟩ rfl (fun c16 => ?_) (fun c16 => ?_)
      · omega
      · refine xald 20 ⟨u76, _, rfl⟩ rfl rfl ?_
        refine xgetD 23 2 hH ⟨u76, _, rfl⟩ rfl (by decide) (by decide) rfl rfl (by decide) ?_
        refine xald 24 ⟨u76, _, rfl⟩ rfl rfl ?_
        refine xgetC 27 hH ⟨u76, _, rfl⟩ rfl (by decide) (by decide) rfl rfl (by decide) (fun z24 h24 => ?_)
        refine xild 28 ⟨u76, _, rfl⟩ rfl rfl ?_
        refine xild 29 ⟨u76, _, rfl⟩ rfl rfl ?_
        refine xshr 30 ⟨u76, _, rfl⟩ rfl ?_
        refine xi2bE 31 ⟨u76, _, rfl⟩ rfl (fun z30 h30 => ?_)
        refine xbastE 32 z24.toInt.toNat hH ⟨u76, _, rfl⟩ rfl (by omega) (by omega) (fun hp31 hH31 F31 V31 O31 => ?_)
        have n31 : rN hp31 1 0 = rN hp 1 0 := r_fr F31 rfl
        refine xald 33 ⟨u76, _, rfl⟩ rfl rfl ?_
        refine xdup 34 ⟨u76, _, rfl⟩ rfl rfl ?_
        refine xgetC 37 hH31 ⟨u76, _, rfl⟩ rfl (by decide) (by decide) rfl rfl (by decide) (fun z34 h34 => ?_)
        refine xcst 38 (1) ⟨u76, _, rfl⟩ rfl (by decide) (fun z37 h37 => ?_)
        refine xadd 39 _ ⟨u76, _, rfl⟩ rfl rfl (by omega) (by omega) (fun z38 h38 => ?_)
        refine xputC 42 hH31 ⟨u76, _, rfl⟩ rfl (by decide) (by decide) rfl rfl (by decide) ⟨rfl, rfl⟩ (by omega) (by omega) (fun hp39 hH39 U39 => ?_)
        have s39 := U39.1
        refine xinc 45 (-8) ⟨u76, _, rfl⟩ rfl rfl rfl (by decide) (by omega) (by omega) (fun z42 h42 => ?_)
        refine xgoto ⟨u76, _, rfl⟩ ?_
        rw [show z24.toInt.toNat = n + j by omega] at V31 O31
        exact ih (j + 1) _ hp39 (by omega) (by omega) hH39 ((hF.trans (bFr_sub F31 (by decide))).trans (rU_fr U39 (by decide))) (by omega) (fun q hq => by rw [rU_ne U39 (by first | decide | exact (fun z => absurd z.1 (by decide)) | omega), O31 q (by omega)]; exact h2 q hq) (fun i hi => by
          rw [rU_ne U39 (by first | decide | exact (fun z => absurd z.1 (by decide)) | omega)]
          by_cases e : i = j
          · rw [e, V31, h30, ek]; rfl
          · rw [O31 _ (by omega)]; exact h3 i (by omega))
theorem k_apE {d : Nat} {hp : amH} {R : xQ} {x : Int32} {n : Nat} (hH : bHk 84 bTT hp) (h0 : rN hp 1 0 = (n : Int)) (hn : n ≤ 596) (hR : ∀ hp1, bHk 84 bTT hp1 → bFr wTx hp hp1 → rN hp1 1 0 = (n : Int) + 4 → (∀ k, k < n → rN hp1 2 k = rN hp 2 k) → (∀ j, j < 4 → rN hp1 2 (n + j) % 256 = byv x j) → R (.inl none) hp1) : xK d 76 [.ref 1, .int x] hp R := by
  refine xin (M := am_m76) rfl rfl rfl ?_
  refine xbip 2 (24) ⟨u76, _, rfl⟩ rfl (by decide) (fun z0 h0' => ?_)
  refine xist 3 ⟨u76, _, rfl⟩ rfl rfl ?_
  exact l76E h0 hn hR 4 0 _ hp (by omega) (by omega) hH (bFr.refl _ _) (by omega) (fun _ _ => rfl) (fun i hi => by omega)
/-- twenty bytes behind the n that there are -/
noncomputable def bytE (x1 x2 x3 x4 x5 : Int32) (j : Nat) : Int := if j < 4 then byv x1 j else if j < 8 then byv x2 (j - 4) else if j < 12 then byv x3 (j - 8) else if j < 16 then byv x4 (j - 12) else byv x5 (j - 16)
theorem k_113E {n : Nat} {d : Nat} {hp : amH} {R : xQ} {x1 x2 x3 x4 x5 : Int32} (hH : bHk 84 bTT hp) (h0 : rN hp 1 0 = (n : Int)) (hR : ∀ (z : Int32) hp1, bHk 84 bTT hp1 → bFr wTx hp hp1 → ((n ≤ 580 ∧ rN hp1 1 0 = (n : Int) + 20 ∧ z.toInt = (n : Int) + 20 ∧ (∀ k, k < n → rN hp1 2 k = rN hp 2 k) ∧ ∀ j, j < 20 → rN hp1 2 (n + j) % 256 = bytE x1 x2 x3 x4 x5 j) ∨ (580 < n ∧ hp1 = hp ∧ z.toInt = -1)) → R (.inl (some (.int z))) hp1) : xK (d + 1) 113 [.ref 0, .int x1, .int x2, .int x3, .int x4, .int x5] hp R := by
  have b1 := b10 hH
  refine xin (M := am_m113) rfl rfl rfl ?_
  refine xald 1 ⟨u113, _, rfl⟩ rfl rfl ?_
  refine xgetD 4 1 hH ⟨u113, _, rfl⟩ rfl (by decide) (by decide) rfl rfl (by decide) ?_
  refine xcallC 7 (o := 1) [] [] hH ⟨u113, _, rfl⟩ rfl rfl (by decide) rfl (by decide) rfl ⟨rfl, rfl, rfl, rfl⟩ rfl (k_hr hH (fun z4 h4 => ⟨_, rfl, ?_⟩))
  refine xif_ne 10 ⟨u113, _, rfl⟩ rfl (fun c7 => ?_) (fun c7 => ?_)
  · refine xald 13 ⟨u113, _, rfl⟩ rfl rfl ?_
    refine xgetD 16 1 hH ⟨u113, _, rfl⟩ rfl (by decide) (by decide) rfl rfl (by decide) ?_
    refine xild 17 ⟨u113, _, rfl⟩ rfl rfl ?_
    refine xcallC 20 (o := 1) [.int _] [] hH ⟨u113, _, rfl⟩ rfl rfl (by decide) rfl (by decide) rfl ⟨rfl, rfl, rfl, rfl⟩ rfl (k_apE (n := n + 0) hH (by omega) (by omega) (fun hp17 hH17 F17 N17 O17 E17 => ⟨_, rfl, ?_⟩))
    refine xald 21 ⟨u113, _, rfl⟩ rfl rfl ?_
    refine xgetD 24 1 hH17 ⟨u113, _, rfl⟩ rfl (by decide) (by decide) rfl rfl (by decide) ?_
    refine xild 25 ⟨u113, _, rfl⟩ rfl rfl ?_
    refine xcallC 28 (o := 1) [.int _] [] hH17 ⟨u113, _, rfl⟩ rfl rfl (by decide) rfl (by decide) rfl ⟨rfl, rfl, rfl, rfl⟩ rfl (k_apE (n := n + 4) hH17 (by omega) (by omega) (fun hp25 hH25 F25 N25 O25 E25 => ⟨_, rfl, ?_⟩))
    refine xald 29 ⟨u113, _, rfl⟩ rfl rfl ?_
    refine xgetD 32 1 hH25 ⟨u113, _, rfl⟩ rfl (by decide) (by decide) rfl rfl (by decide) ?_
    refine xild 33 ⟨u113, _, rfl⟩ rfl rfl ?_
    refine xcallC 36 (o := 1) [.int _] [] hH25 ⟨u113, _, rfl⟩ rfl rfl (by decide) rfl (by decide) rfl ⟨rfl, rfl, rfl, rfl⟩ rfl (k_apE (n := n + 8) hH25 (by omega) (by omega) (fun hp33 hH33 F33 N33 O33 E33 => ⟨_, rfl, ?_⟩))
    refine xald 37 ⟨u113, _, rfl⟩ rfl rfl ?_
    refine xgetD 40 1 hH33 ⟨u113, _, rfl⟩ rfl (by decide) (by decide) rfl rfl (by decide) ?_
    refine xild2 42 ⟨u113, _, rfl⟩ rfl rfl ?_
    refine xcallC 45 (o := 1) [.int _] [] hH33 ⟨u113, _, rfl⟩ rfl rfl (by decide) rfl (by decide) rfl ⟨rfl, rfl, rfl, rfl⟩ rfl (k_apE (n := n + 12) hH33 (by omega) (by omega) (fun hp42 hH42 F42 N42 O42 E42 => ⟨_, rfl, ?_⟩))
    refine xald 46 ⟨u113, _, rfl⟩ rfl rfl ?_
    refine xgetD 49 1 hH42 ⟨u113, _, rfl⟩ rfl (by decide) (by decide) rfl rfl (by decide) ?_
    refine xild2 51 ⟨u113, _, rfl⟩ rfl rfl ?_
    refine xcallC 54 (o := 1) [.int _] [] hH42 ⟨u113, _, rfl⟩ rfl rfl (by decide) rfl (by decide) rfl ⟨rfl, rfl, rfl, rfl⟩ rfl (k_apE (n := n + 16) hH42 (by omega) (by omega) (fun hp51 hH51 F51 N51 O51 E51 => ⟨_, rfl, ?_⟩))
    refine xald 55 ⟨u113, _, rfl⟩ rfl rfl ?_
    refine xgetD 58 1 hH51 ⟨u113, _, rfl⟩ rfl (by decide) (by decide) rfl rfl (by decide) ?_
    refine xgetC 61 hH51 ⟨u113, _, rfl⟩ rfl (by decide) (by decide) rfl rfl (by decide) (fun z58 h58 => ?_)
    exact xret ⟨u113, _, rfl⟩ rfl (hR _ hp51 hH51 (((((F17).trans F25).trans F33).trans F42).trans F51) (Or.inl ⟨by omega, by omega, by omega, fun k hk => by rw [O51 k (by omega), O42 k (by omega), O33 k (by omega), O25 k (by omega), O17 k hk], fun j hj => by
      unfold bytE
      by_cases g1 : j < 4
      · rw [if_pos g1, O51 _ (by omega), O42 _ (by omega), O33 _ (by omega), O25 _ (by omega)]
        exact E17 j g1
      · rw [if_neg g1]
        by_cases g2 : j < 8
        · rw [if_pos g2, O51 _ (by omega), O42 _ (by omega), O33 _ (by omega)]
          have := E25 (j - 4) (by omega)
          rw [show n + 4 + (j - 4) = n + j by omega] at this
          exact this
        · rw [if_neg g2]
          by_cases g3 : j < 12
          · rw [if_pos g3, O51 _ (by omega), O42 _ (by omega)]
            have := E33 (j - 8) (by omega)
            rw [show n + 8 + (j - 8) = n + j by omega] at this
            exact this
          · rw [if_neg g3]
            by_cases g4 : j < 16
            · rw [if_pos g4, O51 _ (by omega)]
              have := E42 (j - 12) (by omega)
              rw [show n + 12 + (j - 12) = n + j by omega] at this
              exact this
            · rw [if_neg g4]
              have := E51 (j - 16) (by omega)
              rw [show n + 16 + (j - 16) = n + j by omega] at this
              exact this⟩))
  · refine xcst 11 (-1) ⟨u113, _, rfl⟩ rfl (by decide) (fun z10 h10 => ?_)
    exact xret ⟨u113, _, rfl⟩ rfl (hR _ hp hH (bFr.refl _ _) (Or.inr ⟨by omega, rfl, by omega⟩))
theorem l238E {d : Nat} {hp0 : amH} {R : xQ} {x : Int32} {n : Nat} (h0 : rN hp0 66 21 = (n : Int)) (hn : n ≤ 596) (hR : ∀ hp1, bHk 84 bTT hp1 → bFr wAp hp0 hp1 → rN hp1 66 21 = (n : Int) + 4 → (∀ k, k < n → rN hp1 80 k = rN hp0 80 k) → (∀ j, j < 4 → rN hp1 80 (n + j) = byv x j) → R (.inl none) hp1) :
    ∀ (jj j : Nat) (k : Int32) (hp : amH), j + jj = 4 → k.toInt = 8 * (jj : Int) - 8 → bHk 84 bTT hp → bFr wAp hp0 hp → rN hp 66 21 = (n : Int) + (j : Int) → (∀ k, k < n → rN hp 80 k = rN hp0 80 k) → (∀ i, i < j → rN hp 80 (n + i) = byv x i) → xV d am_m238 3 [some (.ref 66), some (.int x), some (.int k)] [] hp R := by
  intro jj
  induction jj with
  | zero =>
    intro j k hp hj hk hH hF h1 h2 h3
    refine xild 4 ⟨u238, _, rfl⟩ rfl rfl ?_
    refine xif_lt 7 ⟨u238, _, rfl⟩ rfl (fun c4 => ?_) (fun c4 => ?_)
    · exact xretV ⟨u238, _, rfl⟩ rfl (hR hp hH hF (by omega) h2 (fun i hi => h3 i (by omega)))
    · omega
  | succ jj ih =>
    intro j k hp hj hk hH hF h1 h2 h3
    have b1 := b21 hH
    have ek := i_ofI (m := 24 - 8 * (j : Int)) (by omega : k.toInt = 24 - 8 * (j : Int))
    refine xild 4 ⟨u238, _, rfl⟩ rfl rfl ?_
    refine xif_lt 7 ⟨u238, _, rfl⟩ rfl (fun c4 => ?_) (fun c4 => ?_)
    · omega
    · refine xald 8 ⟨u238, _, rfl⟩ rfl rfl ?_
      refine xgetR 11 80 hH ⟨u238, _, rfl⟩ rfl rfl ?_
      refine xald 12 ⟨u238, _, rfl⟩ rfl rfl ?_
      refine xgetI 15 hH ⟨u238, _, rfl⟩ rfl rfl (fun z12 h12 => ?_)
      refine xild 16 ⟨u238, _, rfl⟩ rfl rfl ?_
      refine xild 17 ⟨u238, _, rfl⟩ rfl rfl ?_
      refine xshr 18 ⟨u238, _, rfl⟩ rfl ?_
      refine xsip 21 (255) ⟨u238, _, rfl⟩ rfl (by decide) (fun z18 h18 => ?_)
      refine xand 22 ⟨u238, _, rfl⟩ rfl ?_
      have a22 := and255 (x >>> (k &&& 31)) z18 h18
      refine xiast 23 (z12).toInt.toNat hH ⟨u238, _, rfl⟩ rfl (by decide) rfl (by omega) (by omega) (by omega) (by omega) (fun hp22 hH22 U22 => ?_)
      have n22 : rN hp22 66 21 = rN hp 66 21 := rU_ne U22 (by first | decide | exact (fun z => absurd z.1 (by decide)) | omega)
      refine xald 24 ⟨u238, _, rfl⟩ rfl rfl ?_
      refine xdup 25 ⟨u238, _, rfl⟩ rfl rfl ?_
      refine xgetI 28 hH22 ⟨u238, _, rfl⟩ rfl rfl (fun z25 h25 => ?_)
      refine xcst 29 (1) ⟨u238, _, rfl⟩ rfl (by decide) (fun z28 h28 => ?_)
      refine xadd 30 _ ⟨u238, _, rfl⟩ rfl rfl (by omega) (by omega) (fun z29 h29 => ?_)
      refine xputI 33 hH22 ⟨u238, _, rfl⟩ rfl rfl ⟨rfl, rfl⟩ (by omega) (by omega) (fun hp30 hH30 U30 => ?_)
      have s30 := U30.1
      refine xinc 36 (-8) ⟨u238, _, rfl⟩ rfl rfl rfl (by decide) (by omega) (by omega) (fun z33 h33 => ?_)
      refine xgoto ⟨u238, _, rfl⟩ ?_
      have w22 := U22.1
      rw [show (z12).toInt.toNat = n + j by omega] at w22
      exact ih (j + 1) _ hp30 (by omega) (by omega) hH30 ((hF.trans (rU_fr U22 (bIn_all (by decide) _))).trans (rU_fr U30 (by decide))) (by omega) (fun q hq => by rw [rU_ne U30 (by first | decide | exact (fun z => absurd z.1 (by decide)) | omega), rU_ne U22 (by first | decide | exact (fun z => absurd z.1 (by decide)) | omega)]; exact h2 q hq) (fun i hi => by
        rw [rU_ne U30 (by first | decide | exact (fun z => absurd z.1 (by decide)) | omega)]
        by_cases e : i = j
        · rw [e, w22, ek, m255 h18]; rfl
        · rw [rU_ne U22 (by first | decide | exact (fun z => absurd z.1 (by decide)) | omega)]; exact h3 i (by omega))
theorem k_awE {d : Nat} {hp : amH} {R : xQ} {x : Int32} {n : Nat} (hH : bHk 84 bTT hp) (h0 : rN hp 66 21 = (n : Int)) (hn : n ≤ 596) (hR : ∀ hp1, bHk 84 bTT hp1 → bFr wAp hp hp1 → rN hp1 66 21 = (n : Int) + 4 → (∀ k, k < n → rN hp1 80 k = rN hp 80 k) → (∀ j, j < 4 → rN hp1 80 (n + j) = byv x j) → R (.inl none) hp1) : xK d 238 [.ref 66, .int x] hp R := by
  refine xin (M := am_m238) rfl rfl rfl ?_
  refine xbip 2 (24) ⟨u238, _, rfl⟩ rfl (by decide) (fun z0 h0' => ?_)
  refine xist 3 ⟨u238, _, rfl⟩ rfl rfl ?_
  exact l238E h0 hn hR 4 0 _ hp (by omega) (by omega) hH (bFr.refl _ _) (by omega) (fun _ _ => rfl) (fun i hi => by omega)
theorem k_239E {n : Nat} {d : Nat} {hp : amH} {R : xQ} {x1 x2 x3 x4 x5 : Int32} (hH : bHk 84 bTT hp) (h0 : rN hp 66 21 = (n : Int)) (hR : ∀ (z : Int32) hp1, bHk 84 bTT hp1 → bFr ((66, 7) :: wAp) hp hp1 → ((n ≤ 580 ∧ rN hp1 66 21 = (n : Int) + 20 ∧ z.toInt = (n : Int) + 20 ∧ (∀ k, k < n → rN hp1 80 k = rN hp 80 k) ∧ ∀ j, j < 20 → rN hp1 80 (n + j) = bytE x1 x2 x3 x4 x5 j) ∨ (580 < n ∧ rN hp1 66 21 = rN hp 66 21 ∧ (∀ k, rN hp1 80 k = rN hp 80 k) ∧ z.toInt = -1)) → R (.inl (some (.int z))) hp1) : xK (d + 1) 239 [.ref 66, .int x1, .int x2, .int x3, .int x4, .int x5] hp R := by
  have b1 := b21 hH
  refine xin (M := am_m239) rfl rfl rfl ?_
  refine xald 1 ⟨u239, _, rfl⟩ rfl rfl ?_
  refine xcst 2 (0) ⟨u239, _, rfl⟩ rfl (by decide) (fun z1 h1 => ?_)
  refine xputI 5 hH ⟨u239, _, rfl⟩ rfl rfl ⟨rfl, rfl⟩ (by omega) (by omega) (fun hp2 hH2 U2 => ?_)
  have n2 : rN hp2 66 21 = rN hp 66 21 := rU_ne U2 (by first | decide | exact (fun z => absurd z.1 (by decide)) | omega)
  refine xald 6 ⟨u239, _, rfl⟩ rfl rfl ?_
  refine xgetI 9 hH2 ⟨u239, _, rfl⟩ rfl rfl (fun z6 h6 => ?_)
  refine xbip 11 (20) ⟨u239, _, rfl⟩ rfl (by decide) (fun z9 h9 => ?_)
  refine xadd 12 _ ⟨u239, _, rfl⟩ rfl rfl (by omega) (by omega) (fun z11 h11 => ?_)
  refine xsip 15 (600) ⟨u239, _, rfl⟩ rfl (by decide) (fun z12 h12 => ?_)
  refine xcmp_le 18 ⟨u239, _, rfl⟩ rfl (fun c15 => ?_) (fun c15 => ?_)
  · refine xald 21 ⟨u239, _, rfl⟩ rfl rfl ?_
    refine xild 22 ⟨u239, _, rfl⟩ rfl rfl ?_
    refine xcall 25 [.ref 66, .int _] [] hH2 ⟨u239, _, rfl⟩ rfl rfl rfl rfl rfl (k_awE (n := n + 0) hH2 (by omega) (by omega) (fun hp22 hH22 F22 N22 O22 E22 => ⟨_, rfl, ?_⟩))
    refine xald 26 ⟨u239, _, rfl⟩ rfl rfl ?_
    refine xild 27 ⟨u239, _, rfl⟩ rfl rfl ?_
    refine xcall 30 [.ref 66, .int _] [] hH22 ⟨u239, _, rfl⟩ rfl rfl rfl rfl rfl (k_awE (n := n + 4) hH22 (by omega) (by omega) (fun hp27 hH27 F27 N27 O27 E27 => ⟨_, rfl, ?_⟩))
    refine xald 31 ⟨u239, _, rfl⟩ rfl rfl ?_
    refine xild 32 ⟨u239, _, rfl⟩ rfl rfl ?_
    refine xcall 35 [.ref 66, .int _] [] hH27 ⟨u239, _, rfl⟩ rfl rfl rfl rfl rfl (k_awE (n := n + 8) hH27 (by omega) (by omega) (fun hp32 hH32 F32 N32 O32 E32 => ⟨_, rfl, ?_⟩))
    refine xald 36 ⟨u239, _, rfl⟩ rfl rfl ?_
    refine xild2 38 ⟨u239, _, rfl⟩ rfl rfl ?_
    refine xcall 41 [.ref 66, .int _] [] hH32 ⟨u239, _, rfl⟩ rfl rfl rfl rfl rfl (k_awE (n := n + 12) hH32 (by omega) (by omega) (fun hp38 hH38 F38 N38 O38 E38 => ⟨_, rfl, ?_⟩))
    refine xald 42 ⟨u239, _, rfl⟩ rfl rfl ?_
    refine xild2 44 ⟨u239, _, rfl⟩ rfl rfl ?_
    refine xcall 47 [.ref 66, .int _] [] hH38 ⟨u239, _, rfl⟩ rfl rfl rfl rfl rfl (k_awE (n := n + 16) hH38 (by omega) (by omega) (fun hp44 hH44 F44 N44 O44 E44 => ⟨_, rfl, ?_⟩))
    refine xald 48 ⟨u239, _, rfl⟩ rfl rfl ?_
    refine xgetI 51 hH44 ⟨u239, _, rfl⟩ rfl rfl (fun z48 h48 => ?_)
    exact xret ⟨u239, _, rfl⟩ rfl (hR _ hp44 hH44 ((rU_fr U2 (by decide)).trans (bFr_sub (((((F22).trans F27).trans F32).trans F38).trans F44) (by decide))) (Or.inl ⟨by omega, by omega, by omega, fun k hk => by rw [O44 k (by omega), O38 k (by omega), O32 k (by omega), O27 k (by omega), O22 k hk, rU_ne U2 (by first | decide | exact (fun z => absurd z.1 (by decide)) | omega)], fun j hj => by
      unfold bytE
      by_cases g1 : j < 4
      · rw [if_pos g1, O44 _ (by omega), O38 _ (by omega), O32 _ (by omega), O27 _ (by omega)]
        exact E22 j g1
      · rw [if_neg g1]
        by_cases g2 : j < 8
        · rw [if_pos g2, O44 _ (by omega), O38 _ (by omega), O32 _ (by omega)]
          have := E27 (j - 4) (by omega)
          rw [show n + 4 + (j - 4) = n + j by omega] at this
          exact this
        · rw [if_neg g2]
          by_cases g3 : j < 12
          · rw [if_pos g3, O44 _ (by omega), O38 _ (by omega)]
            have := E32 (j - 8) (by omega)
            rw [show n + 8 + (j - 8) = n + j by omega] at this
            exact this
          · rw [if_neg g3]
            by_cases g4 : j < 16
            · rw [if_pos g4, O44 _ (by omega)]
              have := E38 (j - 12) (by omega)
              rw [show n + 12 + (j - 12) = n + j by omega] at this
              exact this
            · rw [if_neg g4]
              have := E44 (j - 16) (by omega)
              rw [show n + 16 + (j - 16) = n + j by omega] at this
              exact this⟩))
  · refine xcst 19 (-1) ⟨u239, _, rfl⟩ rfl (by decide) (fun z18 h18 => ?_)
    exact xret ⟨u239, _, rfl⟩ rfl (hR _ hp2 hH2 (rU_fr U2 (by decide)) (Or.inr ⟨by omega, by omega, fun k => rU_ne U2 (by first | decide | exact (fun z => absurd z.1 (by decide)) | omega), by omega⟩))
end
/-! ##### 19.m.021.27b ##### -/
section
/-! ===== the law's helpers ===== -/
theorem bL1_s : bSems amGG P0 84 bTT bL1 := by rw [← bL1_eq]; exact bAll2_s (by decide) P0_fr bB1_ok (fun e he => by cases he)
theorem bL2_s : bSems amGG P0 84 bTT bL2 := by rw [← bL2_eq]; exact bAll2_s (by decide) P0_fr bB2_ok bL1_s
theorem bL3_s : bSems amGG P0 84 bTT bL3 := by rw [← bL3_eq]; exact bAll2_s (by decide) P0_fr bB3_ok bL2_s
theorem bL4_s : bSems amGG P0 84 bTT bL4 := by rw [← bL4_eq]; exact bAll2_s (by decide) P0_fr bB4_ok bL3_s
theorem bM4_s : bSems amGG P0 84 bTT bM4 := fun e he => by
  rcases List.mem_cons.mp (show e ∈ be_s38 :: bL4 from he) with rfl | h
  · exact be_s38_s bL4_s
  · exact bL4_s e h
theorem bL5_s : bSems amGG P0 84 bTT bL5 := by rw [← bL5_eq]; exact bAll2_s (by decide) P0_fr bB5_ok bM4_s
theorem bL6_s : bSems amGG P0 84 bTT bL6 := by rw [← bL6_eq]; exact bAll2_s (by decide) P0_fr bB6_ok bL5_s
theorem bM6_s : bSems amGG P0 84 bTT bM6 := fun e he => by
  rcases List.mem_cons.mp (show e ∈ be_s161 :: bL6 from he) with rfl | h
  · exact be_s161_s bL6_s
  · exact bL6_s e h
theorem bL7_s : bSems amGG P0 84 bTT bL7 := by rw [← bL7_eq]; exact bAll2_s (by decide) P0_fr bB7_ok bM6_s
theorem bL8_s : bSems amGG P0 84 bTT bL8 := by rw [← bL8_eq]; exact bAll2_s (by decide) P0_fr bB8_ok bL7_s
end
/-! ##### 19.m.022.26s ##### -/
section
/-! ===== the class loads a system: what it knows then of the text ===== -/
theorem u115 : bUp 0 am_m115.1 = true := by decide +kernel
theorem u185 : bUp 0 am_m185.1 = true := by decide +kernel
end
/-! ##### 19.m.023.27c ##### -/
section
/-! ===== what the law keeps: the text and its error, the same on both sides ===== -/
/-- may the text's bytes, their number, the error be kept -/
noncomputable def lawW (W : List (Nat × Nat)) : Bool := W.all (fun p => !(Nat.beq p.1 2) && (!(Nat.beq p.1 80) && (!(Nat.beq p.1 1 && (Nat.ble p.2 2 || Nat.beq p.2 999)) && !(Nat.beq p.1 66 && ((Nat.ble 21 p.2 && Nat.ble p.2 23) || Nat.beq p.2 999)))))
theorem bIn_out {W : List (Nat × Nat)} {c k : Nat} (h : ∀ p ∈ W, ¬ (p.1 = c ∧ (p.2 = k ∨ p.2 = 999))) : bIn W c k = false := by
  induction W with
  | nil => rfl
  | cons p r ih =>
    have h1 := h p List.mem_cons_self
    have ih := ih (fun q hq => h q (List.mem_cons_of_mem _ hq))
    unfold bIn
    split
    · next e =>
      have e := Nat.eq_of_beq_eq_true e
      split
      · next e2 => exact absurd ⟨e, Or.inl (Nat.eq_of_beq_eq_true e2)⟩ h1
      · split
        · next e3 => exact absurd ⟨e, Or.inr (Nat.eq_of_beq_eq_true e3)⟩ h1
        · exact ih
    · exact ih
theorem lawW_s {W : List (Nat × Nat)} (h : lawW W = true) : (∀ k, bIn W 2 k = false) ∧ (∀ k, bIn W 80 k = false) ∧ (∀ k, k ≤ 2 → bIn W 1 k = false) ∧ ∀ k, 21 ≤ k → k ≤ 23 → bIn W 66 k = false := by
  have g : ∀ p ∈ W, ¬ p.1 = 2 ∧ ¬ p.1 = 80 ∧ ¬ (p.1 = 1 ∧ (p.2 ≤ 2 ∨ p.2 = 999)) ∧ ¬ (p.1 = 66 ∧ ((21 ≤ p.2 ∧ p.2 ≤ 23) ∨ p.2 = 999)) := by
    intro p hp
    have := List.all_eq_true.mp h p hp
    simp only [Bool.and_eq_true, Bool.not_eq_true', Bool.and_eq_false_imp, Bool.or_eq_false_iff] at this
    obtain ⟨a, b, c, d⟩ := this
    refine ⟨fun z => ?_, fun z => ?_, fun z => ?_, fun z => ?_⟩
    · rw [z] at a; cases a
    · rw [z] at b; cases b
    · have := c (by rw [z.1]; rfl)
      rcases z.2 with y | y
      · rw [Nat.ble_eq_true_of_le y] at this; exact absurd this.1 (by decide)
      · rw [y] at this; exact absurd this.2 (by decide)
    · have := d (by rw [z.1]; rfl)
      rcases z.2 with y | y
      · have t := this.1 (Nat.ble_eq_true_of_le y.1)
        rw [Nat.ble_eq_true_of_le y.2] at t; cases t
      · rw [y] at this; exact absurd this.2 (by decide)
  exact ⟨fun k => bIn_out (fun p hp z => (g p hp).1 z.1), fun k => bIn_out (fun p hp z => (g p hp).2.1 z.1), fun k hk => bIn_out (fun p hp z => (g p hp).2.2.1 ⟨z.1, by omega⟩), fun k h1 h2 => bIn_out (fun p hp z => (g p hp).2.2.2 ⟨z.1, by omega⟩)⟩
/-- what holds before and after every step of the law -/
noncomputable def lawI (hp : amH) : Prop := bHk 84 bTT hp ∧ P0 hp ∧ rN hp 1 0 = rN hp 66 21 ∧ cB hp = rB hp ∧ rN hp 1 1 = rN hp 66 22 ∧ rN hp 1 2 = rN hp 66 23
theorem lawI_fr {W : List (Nat × Nat)} {hp hp1 : amH} (h : lawI hp) (hH1 : bHk 84 bTT hp1) (hP1 : P0 hp1) (hF : bFr W hp hp1) (w1 : lawW W = true) (w2 : lawW W = true) : lawI hp1 := by
  obtain ⟨g1, g2, g3, g4⟩ := lawW_s w1
  obtain ⟨-, -, h3, h4, h5, h6⟩ := h
  have e0 : rN hp1 1 0 = rN hp 1 0 := r_fr hF (g3 0 (by decide))
  have e21 : rN hp1 66 21 = rN hp 66 21 := r_fr hF (g4 21 (by decide) (by decide))
  refine ⟨hH1, hP1, by rw [e0, e21]; exact h3, ?_, by rw [show rN hp1 1 1 = rN hp 1 1 from r_fr hF (g3 1 (by decide)), show rN hp1 66 22 = rN hp 66 22 from r_fr hF (g4 22 (by decide) (by decide))]; exact h5, by rw [show rN hp1 1 2 = rN hp 1 2 from r_fr hF (g3 2 (by decide)), show rN hp1 66 23 = rN hp 66 23 from r_fr hF (g4 23 (by decide) (by decide))]; exact h6⟩
  rw [rB_F hF (g4 21 (by decide) (by decide)) g2, ← h4]
  funext k
  unfold cB
  rw [e0, show rN hp1 2 k = rN hp 2 k from r_fr hF (g1 k)]
/-- the same bytes -/
theorem bt_of {hp : amH} (h : cB hp = rB hp) (hn : rN hp 1 0 = rN hp 66 21) (k : Nat) (hk : (k : Int) < rN hp 1 0) : rN hp 2 k % 256 = rN hp 80 k := by
  have := congrFun h k
  unfold cB rB at this
  rw [if_pos hk, if_pos (by omega)] at this
  exact this
theorem bt_to {hp : amH} (hn : rN hp 1 0 = rN hp 66 21) (h : ∀ k : Nat, (k : Int) < rN hp 1 0 → rN hp 2 k % 256 = rN hp 80 k) : cB hp = rB hp := by
  funext k
  unfold cB rB
  by_cases g : (k : Int) < rN hp 1 0
  · rw [if_pos g, if_pos (by omega), h k g]
  · rw [if_neg g, if_neg (by omega)]
theorem lawI_83 {hp hp1 : amH} (h : lawI hp) (hH1 : bHk 84 bTT hp1) (hF : bFr [(83, 999)] hp hp1) : lawI hp1 := lawI_fr h hH1 (P0_W (W := [(83, 999)]) (by decide) hF h.2.1) hF rfl rfl
theorem recv0 {hp : amH} (hH : bHk 84 bTT hp) (r : List Value) : amRecv 0 10 hp (.ref 0 :: r) = true := by
  obtain ⟨c, g1, g2⟩ := bHk_at hH (i := 0) (by decide) rfl
  unfold amRecv
  dsimp only
  rw [if_pos rfl, g1]
  have g2 : c.1 = 10 := g2.1
  exact decide_eq_true ⟨g2, by decide⟩
theorem recv66 {hp : amH} (hH : bHk 84 bTT hp) (r : List Value) : amRecv 0 11 hp (.ref 66 :: r) = true := by
  obtain ⟨vs, h1, -⟩ := x66 hH
  unfold amRecv
  dsimp only
  rw [if_pos rfl, h1]
  rfl
noncomputable def yI (s : bSp) : Bool := s.2.2.2.2.2.all (fun c => match c.1 with
  | some (.inl _) => true
  | _ => false)
noncomputable def yT (t : Nat) (s : bSp) : Bool := s.2.2.2.2.2.all (fun c => match c.1 with
  | some (.inr (.inl u)) => Nat.beq u t
  | _ => false)
theorem a0r : bYr 84 (.inr (.inr [0])) (.ref 0) := ⟨0, rfl, by decide, by simp⟩
theorem ai (x : Int32) : bYr 84 (.inl (0, 4294967295)) (.int x) := ⟨x, rfl, Nat.zero_le _, bOff_le x⟩
theorem bT1 {w : Value} (h : bT 1 w) : ∃ x, w = .long x := by
  rcases h with ⟨-, h⟩ | ⟨h, -⟩ | ⟨h, -⟩ | ⟨h, -⟩ | ⟨h, -⟩
  · exact h
  · omega
  · omega
  · omega
  · exact absurd h (by decide)
end
/-! ##### 19.m.024.27d ##### -/
section
/-! ===== the law's five calls of the text, both sides ===== -/
noncomputable def gAp1 (x1 x2 x3 x4 x5 : Int32) (n : Nat) (hp : amH) (z : Int32) (hp1 : amH) : Prop := bHk 84 bTT hp1 ∧ bFr wTx hp hp1 ∧ ((n ≤ 580 ∧ rN hp1 1 0 = (n : Int) + 20 ∧ z.toInt = (n : Int) + 20 ∧ (∀ k, k < n → rN hp1 2 k = rN hp 2 k) ∧ ∀ j, j < 20 → rN hp1 2 (n + j) % 256 = bytE x1 x2 x3 x4 x5 j) ∨ (580 < n ∧ hp1 = hp ∧ z.toInt = -1))
noncomputable def gAp2 (x1 x2 x3 x4 x5 : Int32) (n : Nat) (hp : amH) (z : Int32) (hp1 : amH) : Prop := bHk 84 bTT hp1 ∧ bFr ((66, 7) :: wAp) hp hp1 ∧ ((n ≤ 580 ∧ rN hp1 66 21 = (n : Int) + 20 ∧ z.toInt = (n : Int) + 20 ∧ (∀ k, k < n → rN hp1 80 k = rN hp 80 k) ∧ ∀ j, j < 20 → rN hp1 80 (n + j) = bytE x1 x2 x3 x4 x5 j) ∨ (580 < n ∧ rN hp1 66 21 = rN hp 66 21 ∧ (∀ k, rN hp1 80 k = rN hp 80 k) ∧ z.toInt = -1))
theorem law_ap {x1 x2 x3 x4 x5 : Int32} {n : Nat} {hp hp1 hp2 : amH} {z1 z2 : Int32} (hI : lawI hp) (h0 : rN hp 1 0 = (n : Int)) (g1 : gAp1 x1 x2 x3 x4 x5 n hp z1 hp1) (g2 : gAp2 x1 x2 x3 x4 x5 n hp1 z2 hp2) : lawI hp2 ∧ z1.toInt = z2.toInt := by
  obtain ⟨H1, F1, V1⟩ := g1
  obtain ⟨H2, F2, V2⟩ := g2
  obtain ⟨-, hP, h3, h4, h5, h6⟩ := hI
  have a0 : rN hp2 1 0 = rN hp1 1 0 := r_fr F2 rfl
  have a21 : rN hp1 66 21 = rN hp 66 21 := r_fr F1 rfl
  have a2 : ∀ k, rN hp2 2 k = rN hp1 2 k := fun k => r_fr F2 rfl
  have a80 : ∀ k, rN hp1 80 k = rN hp 80 k := fun k => r_fr F1 rfl
  have old := bt_of h4 h3
  have hn : rN hp2 1 0 = rN hp2 66 21 := by
    rcases V1 with ⟨v1, v2, -⟩ | ⟨v1, rfl, -⟩
    · rcases V2 with ⟨w1, w2, -⟩ | ⟨w1, -⟩ <;> omega
    · rcases V2 with ⟨w1, -⟩ | ⟨w1, w2, -⟩ <;> omega
  refine ⟨⟨H2, P0_W (W := (66, 7) :: wAp) (by decide) F2 (P0_W (W := wTx) (by decide) F1 hP), hn, bt_to hn (fun k hk => ?_), ?_, ?_⟩, ?_⟩
  · rcases V1 with ⟨v1, v2, v3, v4, v5⟩ | ⟨v1, rfl, v3⟩
    · rcases V2 with ⟨w1, w2, w3, w4, w5⟩ | ⟨w1, -⟩
      · rcases Nat.lt_or_ge k n with g | g
        · rw [a2, v4 k g, w4 k g, a80]
          exact old k (by omega)
        · have e1 := v5 (k - n) (by omega)
          have e2 := w5 (k - n) (by omega)
          rw [show n + (k - n) = k by omega] at e1 e2
          rw [a2, e1, e2]
      · omega
    · rcases V2 with ⟨w1, -⟩ | ⟨w1, w2, w3, w4⟩
      · omega
      · rw [a2, w3]
        exact old k (by omega)
  · rw [show rN hp2 1 1 = rN hp1 1 1 from r_fr F2 rfl, show rN hp1 1 1 = rN hp 1 1 from r_fr F1 rfl, show rN hp2 66 22 = rN hp1 66 22 from r_fr F2 rfl, show rN hp1 66 22 = rN hp 66 22 from r_fr F1 rfl]
    exact h5
  · rw [show rN hp2 1 2 = rN hp1 1 2 from r_fr F2 rfl, show rN hp1 1 2 = rN hp 1 2 from r_fr F1 rfl, show rN hp2 66 23 = rN hp1 66 23 from r_fr F2 rfl, show rN hp1 66 23 = rN hp 66 23 from r_fr F1 rfl]
    exact h6
  · rcases V1 with ⟨v1, v2, v3, -⟩ | ⟨v1, v2, v3⟩
    · rcases V2 with ⟨w1, w2, w3, -⟩ | ⟨w1, -⟩ <;> omega
    · rcases V2 with ⟨w1, -⟩ | ⟨w1, w2, -, w3⟩ <;> omega
noncomputable def gTr1 (x : Int32) (hp : amH) (z : Int32) (hp1 : amH) : Prop := bHk 84 bTT hp1 ∧ bFr [(1, 0)] hp hp1 ∧ ((0 ≤ x.toInt ∧ x.toInt ≤ rN hp 1 0 ∧ rN hp1 1 0 = x.toInt ∧ z.toInt = 1) ∨ ((x.toInt < 0 ∨ rN hp 1 0 < x.toInt) ∧ rN hp1 1 0 = rN hp 1 0 ∧ z.toInt = 0))
noncomputable def gTr2 (x : Int32) (hp : amH) (z : Int32) (hp1 : amH) : Prop := bHk 84 bTT hp1 ∧ bFr [(66, 7), (66, 21)] hp hp1 ∧ ((0 ≤ x.toInt ∧ x.toInt ≤ rN hp 66 21 ∧ rN hp1 66 21 = x.toInt ∧ z.toInt = 1) ∨ ((x.toInt < 0 ∨ rN hp 66 21 < x.toInt) ∧ rN hp1 66 21 = rN hp 66 21 ∧ z.toInt = 0))
theorem law_tr {x : Int32} {hp hp1 hp2 : amH} {z1 z2 : Int32} (hI : lawI hp) (g1 : gTr1 x hp z1 hp1) (g2 : gTr2 x hp1 z2 hp2) : lawI hp2 ∧ z1.toInt = z2.toInt := by
  obtain ⟨H1, F1, V1⟩ := g1
  obtain ⟨H2, F2, V2⟩ := g2
  obtain ⟨-, hP, h3, h4, h5, h6⟩ := hI
  have a0 : rN hp2 1 0 = rN hp1 1 0 := r_fr F2 rfl
  have a21 : rN hp1 66 21 = rN hp 66 21 := r_fr F1 rfl
  have old := bt_of h4 h3
  have hn : rN hp2 1 0 = rN hp2 66 21 := by omega
  refine ⟨⟨H2, P0_W (W := [(66, 7), (66, 21)]) (by decide) F2 (P0_W (W := [(1, 0)]) (by decide) F1 hP), hn, bt_to hn (fun k hk => ?_), ?_, ?_⟩, by omega⟩
  · rw [show rN hp2 2 k = rN hp1 2 k from r_fr F2 rfl, show rN hp1 2 k = rN hp 2 k from r_fr F1 rfl, show rN hp2 80 k = rN hp1 80 k from r_fr F2 rfl, show rN hp1 80 k = rN hp 80 k from r_fr F1 rfl]
    exact old k (by omega)
  · rw [show rN hp2 1 1 = rN hp1 1 1 from r_fr F2 rfl, show rN hp1 1 1 = rN hp 1 1 from r_fr F1 rfl, show rN hp2 66 22 = rN hp1 66 22 from r_fr F2 rfl, show rN hp1 66 22 = rN hp 66 22 from r_fr F1 rfl]
    exact h5
  · rw [show rN hp2 1 2 = rN hp1 1 2 from r_fr F2 rfl, show rN hp1 1 2 = rN hp 1 2 from r_fr F1 rfl, show rN hp2 66 23 = rN hp1 66 23 from r_fr F2 rfl, show rN hp1 66 23 = rN hp 66 23 from r_fr F1 rfl]
    exact h6
end
/-! ##### 19.m.025.28a ##### -/
section
/-! ===== triples in their order (pure) ===== -/
/-- the pair n = 15 x + y begins a triple -/
noncomputable def trB (T : sT) (n : Nat) : Bool := decide (n / 15 < n % 15 ∧ ((n % 15 : Nat) : Int) < T (n / 15) (n % 15))
/-- the triples of which the first pair stands before n -/
noncomputable def trL (T : sT) : Nat → List Nat
  | 0 => []
  | n + 1 => if trB T n = true then trL T n ++ [n] else trL T n
theorem trL_mem {T : sT} {k : Nat} : ∀ n, k ∈ trL T n ↔ (k < n ∧ trB T k = true)
  | 0 => by simp [trL]
  | n + 1 => by
    have ih := trL_mem (T := T) (k := k) n
    unfold trL
    split
    · next h =>
      rw [List.mem_append, ih, List.mem_singleton]
      constructor
      · rintro (g | rfl)
        · exact ⟨by omega, g.2⟩
        · exact ⟨by omega, h⟩
      · intro g
        by_cases e : k = n
        · exact Or.inr e
        · exact Or.inl ⟨by omega, g.2⟩
    · next h =>
      rw [ih]
      constructor
      · exact fun g => ⟨by omega, g.2⟩
      · intro g
        have : ¬ k = n := fun e => h (by rw [← e]; exact g.2)
        exact ⟨by omega, g.2⟩
theorem trL_no {T : sT} {n n1 : Nat} (h : n ≤ n1) (hn : ∀ k, n ≤ k → k < n1 → trB T k = false) : trL T n1 = trL T n := by
  induction n1 with
  | zero => rw [show n = 0 by omega]
  | succ m ih =>
    by_cases e : n = m + 1
    · rw [e]
    · rw [show trL T (m + 1) = trL T m by show (if trB T m = true then trL T m ++ [m] else trL T m) = trL T m; rw [if_neg (by rw [hn m (by omega) (by omega)]; decide)]]
      exact ih (by omega) (fun k k1 k2 => hn k k1 (by omega))
theorem trL_add {T : sT} {n : Nat} (h : trB T n = true) : trL T (n + 1) = trL T n ++ [n] := by
  rw [show trL T (n + 1) = if trB T n = true then trL T n ++ [n] else trL T n from rfl, if_pos h]
/-- a triple's points, by its first pair -/
theorem tr_pts {V : Nat} {T : sT} (hT : sOk V T) {n : Nat} (h : trB T n = true) : ∃ z : Nat, T (n / 15) (n % 15) = (z : Int) ∧ n / 15 < n % 15 ∧ n % 15 < z ∧ z < V := by
  have h := of_decide_eq_true h
  obtain ⟨z, hz, g⟩ := sOk_at hT (rfl : T (n / 15) (n % 15) = _) (by omega)
  exact ⟨z, hz, h.1, by omega, by omega⟩
noncomputable def rTT (V : Nat) (T : sT) : Nat → Int := fun i => if i < 4 then (V : Int) else T ((i - 4) / 15) ((i - 4) % 15)
theorem rTT_at {V : Nat} {T : sT} {a b : Nat} (hb : b < 15) : rTT V T (4 + 15 * a + b) = T a b := by
  unfold rTT
  rw [if_neg (by omega), show (4 + 15 * a + b - 4) / 15 = a by omega, show (4 + 15 * a + b - 4) % 15 = b by omega]
theorem rTT_V {V : Nat} {T : sT} (h : sOk V T) : Vf (rTT V T) := by
  have h0 : rTT V T 0 = (V : Int) := rfl
  refine ⟨by have := h.1; omega, by have := h.2.1; omega, fun a b ha hb => ?_⟩
  rw [rTT_at hb]
  rcases h.2.2 a b with g | ⟨c, g1, g2, g3, g4, g5, g6, g7, g8, g9⟩
  · exact Or.inl g
  · have := h.2.1
    exact Or.inr ⟨c, g1, by omega, by omega, by omega, g5, g6, g7, by rw [rTT_at (by omega)]; exact g8, by rw [rTT_at (by omega)]; exact g9⟩
theorem trL_gL {V : Nat} {T : sT} (hT : sOk V T) : ∀ n, ∃ L, gL (rTT V T) n L ∧ L.length = 3 * (trL T n).length
  | 0 => ⟨[], gL_nil _ _, rfl⟩
  | n + 1 => by
    obtain ⟨L, g, hl⟩ := trL_gL hT n
    unfold trL
    split
    · next h =>
      obtain ⟨z, z1, z2, z3, z4⟩ := tr_pts hT h
      have hV := hT.2.1
      have e : 15 * (n / 15) + n % 15 = n := by omega
      have := gL_add (rTT_V hT) g (a := n / 15) (b := n % 15) (c := z) z2 z3 (by omega) (by rw [rTT_at (by omega)]; exact z1) (by omega)
      rw [e] at this
      exact ⟨_, this, by rw [List.length_append, List.length_cons, List.length_cons, List.length_cons, hl, List.length_singleton]; omega⟩
    · exact ⟨L, gL_mono g (by omega), hl⟩
theorem trL_35 {V : Nat} {T : sT} (hT : sOk V T) (n : Nat) : (trL T n).length ≤ 35 := by
  obtain ⟨L, g, hl⟩ := trL_gL hT n
  have := gL_len g
  omega
/-- the set of a triple's points, by its first pair -/
noncomputable def mk3 (T : sT) (n : Nat) : Nat := m3 (n / 15) (n % 15) (T (n / 15) (n % 15)).toNat
/-- the triples listed up to the pair n: how many, their sets, their pairs' numbers -/
noncomputable def lsN (hp : amH) (o : Nat) (T : sT) (n : Nat) : Prop := rN hp o 1 = (((trL T n).length : Nat) : Int) ∧ (∀ t, t < (trL T n).length → rN hp (o + 4) t = ((mk3 T ((trL T n).getD t 0) : Nat) : Int)) ∧
  ∀ t u v, t < (trL T n).length → u < 15 → v < 15 → sPr ((trL T n).getD t 0 / 15) ((trL T n).getD t 0 % 15) (T ((trL T n).getD t 0 / 15) ((trL T n).getD t 0 % 15)).toNat u v → rN hp (o + 2) (15 * u + v) = (t : Int)
theorem lsN_fr {hp hp1 : amH} {o n : Nat} {T : sT} (h : lsN hp o T n) (h1 : rN hp1 o 1 = rN hp o 1) (h4 : ∀ i, rN hp1 (o + 4) i = rN hp (o + 4) i) (h2 : ∀ i, rN hp1 (o + 2) i = rN hp (o + 2) i) : lsN hp1 o T n :=
  ⟨by rw [h1]; exact h.1, fun t ht => by rw [h4]; exact h.2.1 t ht, fun t u v ht hu hv hp => by rw [h2]; exact h.2.2 t u v ht hu hv hp⟩
/-- a pair stands in one triple -/
theorem sPr_T {V : Nat} {T : sT} (hT : sOk V T) {x y z u v : Nat} (e : T x y = (z : Int)) (h : sPr x y z u v) : T u v = (x : Int) + y + z - u - v := by
  obtain ⟨k, hk, x1, y1, z1, n1, n2, n3, t1, t2, t3, t4, t5⟩ := sOk_at hT e (by omega)
  have hk : z = k := by omega
  subst hk
  obtain ⟨g1, g2, g3⟩ := h
  rcases g2 with rfl | rfl | rfl <;> rcases g3 with rfl | rfl | rfl <;> first | exact absurd rfl g1 | omega
theorem pr_one {V : Nat} {T : sT} (hT : sOk V T) {x y z a b c u v : Nat} (h1 : x < y) (h2 : y < z) (h3 : a < b) (h4 : b < c) (e : T x y = (z : Int)) (e2 : T a b = (c : Int)) (p : sPr x y z u v) (q : sPr a b c u v) : x = a ∧ y = b ∧ z = c := by
  have g1 := sPr_T hT e p
  have g2 := sPr_T hT e2 q
  obtain ⟨p1, p2, p3⟩ := p
  obtain ⟨q1, q2, q3⟩ := q
  omega
/-! ===== the class lists its triples ===== -/
theorem k_np {d : Nat} {hp : amH} {R : xQ} {o V x y : Nat} {a b : Int32} (ho : bo o) (hH : bHk 84 bTT hp) (hV : rN hp o 0 = (V : Int)) (ha : a.toInt = (x : Int)) (hb : b.toInt = (y : Int)) (hx : x < V) (hy : y < V)
    (hR : ∀ hp1, bHk 84 bTT hp1 → bFx [o + 2] hp hp1 → (∀ u v, u < 15 → v < 15 → rN hp1 (o + 2) (15 * u + v) = if (u = x ∧ v = y) ∨ (u = y ∧ v = x) then rN hp o 1 else rN hp (o + 2) (15 * u + v)) → R (.inl none) hp1) : xK (d + 1) 20 [.ref o, .int a, .int b] hp R := by
  have q := b_pts hH ho
  refine xin (M := am_m20) rfl rfl (by unfold xAv; simp [amOk, bo_lt ho, Value.category]) ?_
  refine xald 1 ⟨u20, _, rfl⟩ rfl rfl ?_
  refine xild 2 ⟨u20, _, rfl⟩ rfl rfl ?_
  refine xcallC 5 (o := o) [.int _] [] hH ⟨u20, _, rfl⟩ rfl rfl (bo_lt ho) (bo_T ho) (by decide) rfl ⟨rfl, rfl, rfl, rfl⟩ rfl (k_isp ho hH (fun z2 h2 => ⟨_, rfl, ?_⟩))
  refine xif_eq 8 ⟨u20, _, rfl⟩ rfl (fun c5 => ?_) (fun c5 => ?_)
  · omega
  · refine xald 9 ⟨u20, _, rfl⟩ rfl rfl ?_
    refine xild 10 ⟨u20, _, rfl⟩ rfl rfl ?_
    refine xcallC 13 (o := o) [.int _] [] hH ⟨u20, _, rfl⟩ rfl rfl (bo_lt ho) (bo_T ho) (by decide) rfl ⟨rfl, rfl, rfl, rfl⟩ rfl (k_isp ho hH (fun z10 h10 => ⟨_, rfl, ?_⟩))
    refine xif_eq 16 ⟨u20, _, rfl⟩ rfl (fun c13 => ?_) (fun c13 => ?_)
    · omega
    · refine xald 17 ⟨u20, _, rfl⟩ rfl rfl ?_
      refine xgetD 20 (o + 2) hH ⟨u20, _, rfl⟩ rfl (bo_lt ho) (by decide) (bo_T ho) rfl (by decide) ?_
      refine xild 21 ⟨u20, _, rfl⟩ rfl rfl ?_
      refine xbip 23 (15) ⟨u20, _, rfl⟩ rfl (by decide) (fun z21 h21 => ?_)
      refine xmul 24 (Int32.toInt a * 15) ⟨u20, _, rfl⟩ rfl (by rw [h21]) (by omega) (by omega) (fun z23 h23 => ?_)
      refine xild 25 ⟨u20, _, rfl⟩ rfl rfl ?_
      refine xadd 26 _ ⟨u20, _, rfl⟩ rfl rfl (by omega) (by omega) (fun z25 h25 => ?_)
      refine xald 27 ⟨u20, _, rfl⟩ rfl rfl ?_
      refine xgetC 30 hH ⟨u20, _, rfl⟩ rfl (bo_lt ho) (by decide) (bo_T ho) rfl (by decide) (fun z27 h27 => ?_)
      have bm := aMin z27
      have bx := aMax z27
      refine xiast 31 (z25).toInt.toNat hH ⟨u20, _, rfl⟩ rfl (bo_lt2 ho) (bo_T2 ho) (by omega) (by omega) (by omega) (by omega) (fun hp30 hH30 U30 => ?_)
      have s30 := U30.1
      have n30_o_0 : rN hp30 (o) 0 = rN hp (o) 0 := rU_ne U30 (by first | decide | exact (fun z => absurd z.1 (by decide)) | omega)
      have n30_o_1 : rN hp30 (o) 1 = rN hp (o) 1 := rU_ne U30 (by first | decide | exact (fun z => absurd z.1 (by decide)) | omega)
      refine xald 32 ⟨u20, _, rfl⟩ rfl rfl ?_
      refine xgetD 35 (o + 2) hH30 ⟨u20, _, rfl⟩ rfl (bo_lt ho) (by decide) (bo_T ho) rfl (by decide) ?_
      refine xild 36 ⟨u20, _, rfl⟩ rfl rfl ?_
      refine xbip 38 (15) ⟨u20, _, rfl⟩ rfl (by decide) (fun z36 h36 => ?_)
      refine xmul 39 (Int32.toInt b * 15) ⟨u20, _, rfl⟩ rfl (by rw [h36]) (by omega) (by omega) (fun z38 h38 => ?_)
      refine xild 40 ⟨u20, _, rfl⟩ rfl rfl ?_
      refine xadd 41 _ ⟨u20, _, rfl⟩ rfl rfl (by omega) (by omega) (fun z40 h40 => ?_)
      refine xald 42 ⟨u20, _, rfl⟩ rfl rfl ?_
      refine xgetC 45 hH30 ⟨u20, _, rfl⟩ rfl (bo_lt ho) (by decide) (bo_T ho) rfl (by decide) (fun z42 h42 => ?_)
      have bm2 := aMin z42
      have bx2 := aMax z42
      refine xiast 46 (z40).toInt.toNat hH30 ⟨u20, _, rfl⟩ rfl (bo_lt2 ho) (bo_T2 ho) (by omega) (by omega) (by omega) (by omega) (fun hp45 hH45 U45 => ?_)
      have s45 := U45.1
      have n45_o_0 : rN hp45 (o) 0 = rN hp30 (o) 0 := rU_ne U45 (by first | decide | exact (fun z => absurd z.1 (by decide)) | omega)
      have n45_o_1 : rN hp45 (o) 1 = rN hp30 (o) 1 := rU_ne U45 (by first | decide | exact (fun z => absurd z.1 (by decide)) | omega)
      exact xretV ⟨u20, _, rfl⟩ rfl (hR hp45 hH45 ((bFx_U U30 (by simp)).trans (bFx_U U45 (by simp))) (fun u v hu hv => by
          by_cases e2 : u = y ∧ v = x
          · obtain ⟨rfl, rfl⟩ := e2
            rw [if_pos (by omega), show 15 * u + v = z40.toInt.toNat by omega, U45.1, h42]
            exact rU_ne U30 (by first | decide | exact (fun z => absurd z.1 (by decide)) | omega)
          · rw [rU_ne U45 (by first | decide | exact (fun z => absurd z.1 (by decide)) | omega)]
            by_cases e1 : u = x ∧ v = y
            · obtain ⟨rfl, rfl⟩ := e1
              rw [if_pos (by omega), show 15 * u + v = z25.toInt.toNat by omega, U30.1]
              exact h27
            · rw [if_neg (by omega), rU_ne U30 (by first | decide | exact (fun z => absurd z.1 (by decide)) | omega)]))
theorem k_nmb {d : Nat} {hp : amH} {R : xQ} {o V x y z n : Nat} {T : sT} {a b c : Int32} (ho : bo o) (hH : bHk 84 bTT hp) (hB : bdOk hp o V T) (hn : n = 15 * x + y) (hL : lsN hp o T n) (ha : a.toInt = (x : Int)) (hb : b.toInt = (y : Int)) (hc : c.toInt = (z : Int)) (hxy : x < y) (hyz : y < z) (hz : z < V) (e : T x y = (z : Int))
    (hR : ∀ hp1, bHk 84 bTT hp1 → bFx [o, o + 2, o + 4] hp hp1 → rN hp1 o 0 = rN hp o 0 → lsN hp1 o T (n + 1) → R (.inl none) hp1) : xK (d + 2) 19 [.ref o, .int a, .int b, .int c] hp R := by
  have q := b_pts hH ho
  have hV := hB.2.1.2.1
  have bV := hB.1
  have tb : trB T n = true := decide_eq_true (by rw [show n / 15 = x by omega, show n % 15 = y by omega]; omega)
  have eL := trL_add tb
  have l35 := trL_35 hB.2.1 (n + 1)
  rw [eL, List.length_append, List.length_singleton] at l35
  obtain ⟨L1, L2, L3⟩ := id hL
  have hm := m3_lt (x := x) (y := y) (z := z) (by omega) (by omega) (by omega)
  refine xin (M := am_m19) rfl rfl (by unfold xAv; simp [amOk, bo_lt ho, Value.category]) ?_
  refine xald 1 ⟨u19, _, rfl⟩ rfl rfl ?_
  refine xgetC 4 hH ⟨u19, _, rfl⟩ rfl (bo_lt ho) (by decide) (bo_T ho) rfl (by decide) (fun z1 h1 => ?_)
  refine xald 5 ⟨u19, _, rfl⟩ rfl rfl ?_
  refine xgetD 8 (o + 4) hH ⟨u19, _, rfl⟩ rfl (bo_lt ho) (by decide) (bo_T ho) rfl (by decide) ?_
  refine xlen 9 hH ⟨u19, _, rfl⟩ rfl (bo_lt4 ho) (bo_T4 ho) (by decide) (by decide) (fun z8 h8 => ?_)
  refine xcmp_ge 12 ⟨u19, _, rfl⟩ rfl (fun c9 => ?_) (fun c9 => ?_)
  · omega
  · refine xald 13 ⟨u19, _, rfl⟩ rfl rfl ?_
    refine xgetD 16 (o + 4) hH ⟨u19, _, rfl⟩ rfl (bo_lt ho) (by decide) (bo_T ho) rfl (by decide) ?_
    refine xald 17 ⟨u19, _, rfl⟩ rfl rfl ?_
    refine xgetC 20 hH ⟨u19, _, rfl⟩ rfl (bo_lt ho) (by decide) (bo_T ho) rfl (by decide) (fun z17 h17 => ?_)
    refine xild 21 ⟨u19, _, rfl⟩ rfl rfl ?_
    refine xild 22 ⟨u19, _, rfl⟩ rfl rfl ?_
    refine xild 23 ⟨u19, _, rfl⟩ rfl rfl ?_
    refine xcallS 26 [.int _, .int _, .int _] [.int _, .ref (o + 4)] hH ⟨u19, _, rfl⟩ rfl rfl rfl (by simp [amOkS, amOk, bo_lt ho, bo_lt1 ho, bo_lt2 ho, bo_lt3 ho, bo_lt4 ho]) rfl (k_three (x := x) (y := y) (z := z) (by omega) (by omega) (by omega) (by omega) (by omega) (by omega) (fun z23 h23 => ⟨_, rfl, ?_⟩))
    have m23 : z23.toInt = ((m3 x y z : Nat) : Int) := h23
    refine xiast 27 (z17).toInt.toNat hH ⟨u19, _, rfl⟩ rfl (bo_lt4 ho) (bo_T4 ho) (by omega) (by omega) (by omega) (by omega) (fun hp26 hH26 U26 => ?_)
    have s26 := U26.1
    refine xald 28 ⟨u19, _, rfl⟩ rfl rfl ?_
    refine xild 29 ⟨u19, _, rfl⟩ rfl rfl ?_
    refine xild 30 ⟨u19, _, rfl⟩ rfl rfl ?_
    refine xcallC 33 (o := o) [.int _, .int _] [] hH26 ⟨u19, _, rfl⟩ rfl rfl (bo_lt ho) (bo_T ho) (by decide) rfl ⟨rfl, rfl, rfl, rfl⟩ rfl (k_np ho hH26 (V := V) (by rw [rU_ne U26 (by first | decide | exact (fun z => absurd z.1 (by decide)) | omega)]; exact bV) (x := x) (y := y) (by omega) (by omega) (by omega) (by omega) (fun hp30 hH30 F30 E30 => ⟨_, rfl, ?_⟩))
    refine xald 34 ⟨u19, _, rfl⟩ rfl rfl ?_
    refine xild 35 ⟨u19, _, rfl⟩ rfl rfl ?_
    refine xild 36 ⟨u19, _, rfl⟩ rfl rfl ?_
    refine xcallC 39 (o := o) [.int _, .int _] [] hH30 ⟨u19, _, rfl⟩ rfl rfl (bo_lt ho) (bo_T ho) (by decide) rfl ⟨rfl, rfl, rfl, rfl⟩ rfl (k_np ho hH30 (V := V) (by rw [bFx_n F30 (by simp), rU_ne U26 (by first | decide | exact (fun z => absurd z.1 (by decide)) | omega)]; exact bV) (x := x) (y := z) (by omega) (by omega) (by omega) (by omega) (fun hp36 hH36 F36 E36 => ⟨_, rfl, ?_⟩))
    refine xald 40 ⟨u19, _, rfl⟩ rfl rfl ?_
    refine xild 41 ⟨u19, _, rfl⟩ rfl rfl ?_
    refine xild 42 ⟨u19, _, rfl⟩ rfl rfl ?_
    refine xcallC 45 (o := o) [.int _, .int _] [] hH36 ⟨u19, _, rfl⟩ rfl rfl (bo_lt ho) (bo_T ho) (by decide) rfl ⟨rfl, rfl, rfl, rfl⟩ rfl (k_np ho hH36 (V := V) (by rw [bFx_n F36 (by simp), bFx_n F30 (by simp), rU_ne U26 (by first | decide | exact (fun z => absurd z.1 (by decide)) | omega)]; exact bV) (x := y) (y := z) (by omega) (by omega) (by omega) (by omega) (fun hp42 hH42 F42 E42 => ⟨_, rfl, ?_⟩))
    have s42 : rN hp42 o 1 = rN hp o 1 := by rw [bFx_n F42 (by simp), bFx_n F36 (by simp), bFx_n F30 (by simp), rU_ne U26 (by first | decide | exact (fun z => absurd z.1 (by decide)) | omega)]
    have z42 : rN hp42 o 0 = rN hp o 0 := by rw [bFx_n F42 (by simp), bFx_n F36 (by simp), bFx_n F30 (by simp), rU_ne U26 (by first | decide | exact (fun z => absurd z.1 (by decide)) | omega)]
    refine xald 46 ⟨u19, _, rfl⟩ rfl rfl ?_
    refine xdup 47 ⟨u19, _, rfl⟩ rfl rfl ?_
    refine xgetC 50 hH42 ⟨u19, _, rfl⟩ rfl (bo_lt ho) (by decide) (bo_T ho) rfl (by decide) (fun z47 h47 => ?_)
    refine xcst 51 (1) ⟨u19, _, rfl⟩ rfl (by decide) (fun z50 h50 => ?_)
    refine xadd 52 _ ⟨u19, _, rfl⟩ rfl rfl (by omega) (by omega) (fun z51 h51 => ?_)
    refine xputC 55 hH42 ⟨u19, _, rfl⟩ rfl (bo_lt ho) (by decide) (bo_T ho) rfl (by decide) ⟨rfl, rfl⟩ (by omega) (by omega) (fun hp52 hH52 U52 => ?_)
    have s52 := U52.1
    have s1 := U52.1
    have one : ∀ u v, u < 15 → v < 15 → rN hp52 (o + 2) (15 * u + v) = if sPr x y z u v then (((trL T n).length : Nat) : Int) else rN hp (o + 2) (15 * u + v) := fun u v hu hv => by
      rw [rU_ne U52 (by first | decide | exact (fun z => absurd z.1 (by decide)) | omega), E42 u v hu hv, E36 u v hu hv, E30 u v hu hv, bFx_n F36 (by simp), bFx_n F30 (by simp), rU_ne U26 (by first | decide | exact (fun z => absurd z.1 (by decide)) | omega), rU_ne U26 (by first | decide | exact (fun z => absurd z.1 (by decide)) | omega), L1]
      by_cases g1 : (u = y ∧ v = z) ∨ (u = z ∧ v = y)
      · rw [if_pos g1, if_pos (by omega)]
      · rw [if_neg g1]
        by_cases g2 : (u = x ∧ v = z) ∨ (u = z ∧ v = x)
        · rw [if_pos g2, if_pos (by omega)]
        · rw [if_neg g2]
          by_cases g3 : (u = x ∧ v = y) ∨ (u = y ∧ v = x)
          · rw [if_pos g3, if_pos (by omega)]
          · rw [if_neg g3, if_neg (by omega)]
    have gl : ∀ t, t < (trL T n).length → (trL T n ++ [n]).getD t 0 = (trL T n).getD t 0 := fun t ht => by
      rw [List.getD_eq_getElem?_getD, List.getD_eq_getElem?_getD, List.getElem?_append_left ht]
    have gn : (trL T n ++ [n]).getD (trL T n).length 0 = n := by
      rw [List.getD_eq_getElem?_getD, List.getElem?_append_right (Nat.le_refl _), Nat.sub_self]; rfl
    refine xretV ⟨u19, _, rfl⟩ rfl (hR hp52 hH52 (((((bFx_U U26 (by simp)).trans (F30.mono (by simp))).trans (F36.mono (by simp))).trans (F42.mono (by simp))).trans (bFx_U U52 (by simp))) (by rw [rU_ne U52 (by first | decide | exact (fun z => absurd z.1 (by decide)) | omega)]; exact z42) ⟨?_, ?_, ?_⟩)
    · rw [eL, List.length_append, List.length_singleton, s1]
      omega
    · intro t ht
      rw [eL, List.length_append, List.length_singleton] at ht
      rw [eL, rU_ne U52 (by first | decide | exact (fun z => absurd z.1 (by decide)) | omega), bFx_n F42 (by simp), bFx_n F36 (by simp), bFx_n F30 (by simp)]
      by_cases g : t = (trL T n).length
      · rw [g, gn, show (trL T n).length = z17.toInt.toNat by omega, U26.1, h23]
        unfold mk3
        rw [show n / 15 = x by omega, show n % 15 = y by omega, e, Int.toNat_natCast]
      · rw [gl t (by omega), rU_ne U26 (by first | decide | exact (fun z => absurd z.1 (by decide)) | omega)]
        exact L2 t (by omega)
    · intro t u v ht hu hv hp
      rw [eL, List.length_append, List.length_singleton] at ht
      rw [eL] at hp
      rw [one u v hu hv]
      by_cases g : t = (trL T n).length
      · rw [g, gn, show n / 15 = x by omega, show n % 15 = y by omega, e, Int.toNat_natCast] at hp
        rw [if_pos hp, g]
      · rw [gl t (by omega)] at hp
        have hmem : (trL T n).getD t 0 ∈ trL T n := by
          rw [List.getD_eq_getElem?_getD, List.getElem?_eq_getElem (by omega)]
          exact List.getElem_mem _
        obtain ⟨k1, k2⟩ := (trL_mem n).mp hmem
        obtain ⟨c9, c1, c2, c3, c4⟩ := tr_pts hB.2.1 k2
        rw [c1, Int.toNat_natCast] at hp
        have hno : ¬ sPr x y z u v := fun hq => by
          have := pr_one hB.2.1 hxy hyz c2 c3 e c1 hq hp
          omega
        rw [if_neg hno]
        exact L3 t u v (by omega) hu hv (by rw [c1, Int.toNat_natCast]; exact hp)
end
/-! ##### 19.m.026.28b ##### -/
section
/-! ===== the class lists its triples: all ===== -/
theorem l18i {d : Nat} {hp0 : amH} {R : xQ} {o V x : Nat} {T : sT} {a : Int32} (ho : bo o) (ha : a.toInt = (x : Int)) (hx : x < V)
    (hQ : ∀ hp (y : Int32) (w : Option Value), bHk 84 bTT hp → bFx [o, o + 2, o + 4] hp0 hp → bdOk hp o V T → lsN hp o T (15 * (x + 1)) → xV (d + 3) am_m18 52 [some (.ref o), some (.int a), some (.int y), w] [] hp R) :
    ∀ (jj y : Nat) (b : Int32) (hp : amH) (w : Option Value), bHk 84 bTT hp → bFx [o, o + 2, o + 4] hp0 hp → bdOk hp o V T → lsN hp o T (15 * x + y) → b.toInt = (y : Int) → x < y → y + jj = V → xV (d + 3) am_m18 19 [some (.ref o), some (.int a), some (.int b), w] [] hp R := by
  intro jj
  induction jj with
  | zero =>
    intro y b hp w hH hF hB hL hb hxy hj
    have hV := hB.2.1.2.1
    have bV := hB.1
    refine xild 20 ⟨u18, _, rfl⟩ rfl rfl ?_
    refine xald 21 ⟨u18, _, rfl⟩ rfl rfl ?_
    refine xgetC 24 hH ⟨u18, _, rfl⟩ rfl (bo_lt ho) (by decide) (bo_T ho) rfl (by decide) (fun z21 h21 => ?_)
    refine xcmp_ge 27 ⟨u18, _, rfl⟩ rfl (fun c24 => ?_) (fun c24 => ?_)
    · have e : trL T (15 * (x + 1)) = trL T (15 * x + y) := trL_no (by omega) (fun k k1 k2 => decide_eq_false (fun z => by
        rw [show k / 15 = x by omega] at z
        rcases hB.2.1.2.2 x (k % 15) with g | ⟨c, g1, g2, g3, -⟩ <;> omega))
      refine hQ hp b w hH hF hB ?_
      unfold lsN
      rw [e]
      exact hL
    · omega
  | succ jj ih =>
    intro y b hp w hH hF hB hL hb hxy hj
    have hV := hB.2.1.2.1
    have bV := hB.1
    refine xild 20 ⟨u18, _, rfl⟩ rfl rfl ?_
    refine xald 21 ⟨u18, _, rfl⟩ rfl rfl ?_
    refine xgetC 24 hH ⟨u18, _, rfl⟩ rfl (bo_lt ho) (by decide) (bo_T ho) rfl (by decide) (fun z21 h21 => ?_)
    refine xcmp_ge 27 ⟨u18, _, rfl⟩ rfl (fun c24 => ?_) (fun c24 => ?_)
    · omega
    · refine xald 28 ⟨u18, _, rfl⟩ rfl rfl ?_
      refine xild 29 ⟨u18, _, rfl⟩ rfl rfl ?_
      refine xild 30 ⟨u18, _, rfl⟩ rfl rfl ?_
      refine xcallC 33 (o := o) [.int _, .int _] [] hH ⟨u18, _, rfl⟩ rfl rfl (bo_lt ho) (bo_T ho) (by decide) rfl ⟨rfl, rfl, rfl, rfl⟩ rfl (k_thd ho hH hB (fun z30 h30 => ⟨_, rfl, ?_⟩))
      rw [if_pos (by omega), show a.toInt.toNat = x by omega, show b.toInt.toNat = y by omega] at h30
      refine xist 34 ⟨u18, _, rfl⟩ rfl rfl ?_
      refine xild 35 ⟨u18, _, rfl⟩ rfl rfl ?_
      refine xild 36 ⟨u18, _, rfl⟩ rfl rfl ?_
      refine xcmp_le 39 ⟨u18, _, rfl⟩ rfl (fun c36 => ?_) (fun c36 => ?_)
      · refine xinc 49 (1) ⟨u18, _, rfl⟩ rfl rfl rfl (by decide) (by omega) (by omega) (fun z46 h46 => ?_)
        refine xgoto ⟨u18, _, rfl⟩ ?_
        have e : trL T (15 * x + (y + 1)) = trL T (15 * x + y) := trL_no (by omega) (fun k k1 k2 => decide_eq_false (fun z => by
          rw [show k / 15 = x by omega, show k % 15 = y by omega] at z
          omega))
        exact ih (y + 1) _ hp _ hH hF hB (by unfold lsN; rw [e]; exact hL) (by omega) (by omega) (by omega)
      · obtain ⟨c, ec, c1, c2, c3, -⟩ := sOk_at hB.2.1 (rfl : T x y = _) (by omega)
        refine xald 40 ⟨u18, _, rfl⟩ rfl rfl ?_
        refine xild 41 ⟨u18, _, rfl⟩ rfl rfl ?_
        refine xild 42 ⟨u18, _, rfl⟩ rfl rfl ?_
        refine xild 43 ⟨u18, _, rfl⟩ rfl rfl ?_
        refine xcallC 46 (o := o) [.int _, .int _, .int _] [] hH ⟨u18, _, rfl⟩ rfl rfl (bo_lt ho) (bo_T ho) (by decide) rfl ⟨rfl, rfl, rfl, rfl⟩ rfl (k_nmb (z := c) ho hH hB rfl hL ha hb (by omega) hxy (by omega) (by omega) ec (fun hp43 hH43 F43 A43 L43 => ⟨_, rfl, ?_⟩))
        refine xinc 49 (1) ⟨u18, _, rfl⟩ rfl rfl rfl (by decide) (by omega) (by omega) (fun z46 h46 => ?_)
        refine xgoto ⟨u18, _, rfl⟩ ?_
        exact ih (y + 1) _ hp43 _ hH43 (hF.trans F43) (bdOk_fr hB A43 (fun i => bFx_n F43 (by simp)) (fun i => bFx_n F43 (by simp))) L43 (by omega) (by omega) (by omega)
theorem l18o {d : Nat} {hp0 : amH} {R : xQ} {o V : Nat} {T : sT} (ho : bo o) (hR : ∀ hp1, bHk 84 bTT hp1 → bFx [o, o + 2, o + 4] hp0 hp1 → bdOk hp1 o V T → lsN hp1 o T 225 → R (.inl none) hp1) :
    ∀ (jj x : Nat) (a : Int32) (hp : amH) (v w : Option Value), bHk 84 bTT hp → bFx [o, o + 2, o + 4] hp0 hp → bdOk hp o V T → lsN hp o T (15 * x) → a.toInt = (x : Int) → x + jj = V → xV (d + 3) am_m18 7 [some (.ref o), some (.int a), v, w] [] hp R := by
  intro jj
  induction jj with
  | zero =>
    intro x a hp v w hH hF hB hL ha hj
    have hV := hB.2.1.2.1
    have bV := hB.1
    refine xild 8 ⟨u18, _, rfl⟩ rfl rfl ?_
    refine xald 9 ⟨u18, _, rfl⟩ rfl rfl ?_
    refine xgetC 12 hH ⟨u18, _, rfl⟩ rfl (bo_lt ho) (by decide) (bo_T ho) rfl (by decide) (fun z9 h9 => ?_)
    refine xcmp_ge 15 ⟨u18, _, rfl⟩ rfl (fun c12 => ?_) (fun c12 => ?_)
    · have e : trL T 225 = trL T (15 * x) := trL_no (by omega) (fun k k1 k2 => decide_eq_false (fun z => by
        rcases hB.2.1.2.2 (k / 15) (k % 15) with g | ⟨c, g1, g2, g3, -⟩ <;> omega))
      exact xretV ⟨u18, _, rfl⟩ rfl (hR hp hH hF hB (by unfold lsN; rw [e]; exact hL))
    · omega
  | succ jj ih =>
    intro x a hp v w hH hF hB hL ha hj
    have hV := hB.2.1.2.1
    have bV := hB.1
    refine xild 8 ⟨u18, _, rfl⟩ rfl rfl ?_
    refine xald 9 ⟨u18, _, rfl⟩ rfl rfl ?_
    refine xgetC 12 hH ⟨u18, _, rfl⟩ rfl (bo_lt ho) (by decide) (bo_T ho) rfl (by decide) (fun z9 h9 => ?_)
    refine xcmp_ge 15 ⟨u18, _, rfl⟩ rfl (fun c12 => ?_) (fun c12 => ?_)
    · omega
    · refine xild 16 ⟨u18, _, rfl⟩ rfl rfl ?_
      refine xcst 17 (1) ⟨u18, _, rfl⟩ rfl (by decide) (fun z16 h16 => ?_)
      refine xadd 18 _ ⟨u18, _, rfl⟩ rfl rfl (by omega) (by omega) (fun z17 h17 => ?_)
      refine xist 19 ⟨u18, _, rfl⟩ rfl rfl ?_
      have e : trL T (15 * x + (x + 1)) = trL T (15 * x) := trL_no (by omega) (fun k k1 k2 => decide_eq_false (fun z => by
        rw [show k / 15 = x by omega] at z
        omega))
      refine l18i ho ha (by omega) (fun hp1 y1 w1 g1 g2 g3 g4 => ?_) (V - (x + 1)) (x + 1) _ hp w hH hF hB (by unfold lsN; rw [e]; exact hL) (by omega) (by omega) (by omega)
      refine xinc 55 (1) ⟨u18, _, rfl⟩ rfl rfl rfl (by decide) (by omega) (by omega) (fun z52 h52 => ?_)
      refine xgoto ⟨u18, _, rfl⟩ ?_
      exact ih (x + 1) _ hp1 _ _ g1 g2 g3 g4 (by omega) (by omega)
theorem k_list {d : Nat} {hp : amH} {R : xQ} {o V : Nat} {T : sT} (ho : bo o) (hH : bHk 84 bTT hp) (hB : bdOk hp o V T) (hR : ∀ hp1, bHk 84 bTT hp1 → bFx [o, o + 2, o + 4] hp hp1 → bdOk hp1 o V T → lsN hp1 o T 225 → R (.inl none) hp1) : xK (d + 3) 18 [.ref o] hp R := by
  have bV := hB.1
  have hV := hB.2.1.2.1
  refine xin (M := am_m18) rfl rfl (by unfold xAv; simp [amOk, bo_lt ho, Value.category]) ?_
  refine xald 1 ⟨u18, _, rfl⟩ rfl rfl ?_
  refine xcst 2 (0) ⟨u18, _, rfl⟩ rfl (by decide) (fun z1 h1 => ?_)
  refine xputC 5 hH ⟨u18, _, rfl⟩ rfl (bo_lt ho) (by decide) (bo_T ho) rfl (by decide) ⟨rfl, rfl⟩ (by omega) (by omega) (fun hp2 hH2 U2 => ?_)
  have s2 := U2.1
  have n2_o_0 : rN hp2 (o) 0 = rN hp (o) 0 := rU_ne U2 (by first | decide | exact (fun z => absurd z.1 (by decide)) | omega)
  refine xcst 6 (0) ⟨u18, _, rfl⟩ rfl (by decide) (fun z5 h5 => ?_)
  refine xist 7 ⟨u18, _, rfl⟩ rfl rfl ?_
  refine xpad 2 ?_
  exact l18o ho hR V 0 _ hp2 _ _ hH2 (bFx_U U2 (by simp)) (bdOk_fr hB n2_o_0 (fun i => rU_ne U2 (by first | decide | exact (fun z => absurd z.1 (by decide)) | omega)) (fun i => rU_ne U2 (by first | decide | exact (fun z => absurd z.1 (by decide)) | omega))) ⟨by rw [s2]; exact h1, fun t ht => absurd ht (Nat.not_lt_zero t), fun t u v ht => absurd ht (Nat.not_lt_zero t)⟩ (by omega) (by omega)
end
