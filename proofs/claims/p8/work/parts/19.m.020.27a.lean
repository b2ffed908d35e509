/-! ===== the text's bytes, the same on both sides ===== -/
/-- the byte j of a word -/
def byv (x : Int32) (j : Nat) : Int := (x >>> (Int32.ofInt (24 - 8 * (j : Int)) &&& 31)).toInt % 256
theorem i_ofI {k : Int32} {m : Int} (h : k.toInt = m) : k = Int32.ofInt m := by rw [← h, Int32.ofInt_toInt]
theorem bmod_256 (x : Int) : x.bmod 256 % 256 = x % 256 := by
  unfold Int.bmod
  dsimp only
  split <;> omega
theorem nar_256 (x : Int32) : (vp_nar .byte x).toInt % 256 = x.toInt % 256 := by
  have e : (vp_nar .byte x).toInt = x.toInt.bmod 256 := by
    show (x.toInt8.toInt32).toInt = _
    rw [Int8.toInt_toInt32, Int32.toInt_toInt8]
  rw [e, bmod_256]
section XBE
variable {M : amM} {pc a b d : Nat} {L : List (Option Value)} {st : List Value} {hp : amH} {Q : xQ}
theorem xi2bE (q : Nat) {x : Int32} (h : xI M pc .i2b a b) (e : q = pc + 1) (hw : ∀ z : Int32, z.toInt % 256 = x.toInt % 256 → xV d M q L (.int z :: st) hp Q) : xV d M pc L (.int x :: st) hp Q := by
  refine xstep h (fun cl hl => ⟨cl, ?_, hl⟩) (hw x.toInt8.toInt32 (nar_256 x))
  subst e
  simp [amDo, amStep, amI]
theorem xbastE (q m : Nat) {x v : Int32} (hH : bHk 84 bTT hp) (h : xI M pc .bastore a b) (e : q = pc + 1) (hn : x.toInt = (m : Int)) (hl : m < 600)
    (hw : ∀ hp1, bHk 84 bTT hp1 → bFr [(2, 999)] hp hp1 → rN hp1 2 m % 256 = v.toInt % 256 → (∀ k, ¬ k = m → rN hp1 2 k = rN hp 2 k) → xV d M q L st hp1 Q) : xV d M pc L (.int v :: .int x :: .ref 2 :: st) hp Q := by
  obtain ⟨z, z1, z2, z3⟩ := bNarB_s v
  have z4 : z = vp_nar .byte v := by cases z1; rfl
  have hy : bDy (34, 600, [.inl (2147483520, 2147483775)]) m = some (.inl (2147483520, 2147483775)) := rfl
  obtain ⟨vs, g1, g2, -⟩ := x_fI hH (c := 2) (by decide) rfl hy hl
  obtain ⟨k1, k2⟩ := x_set hH (x := z) (c := 2) rfl g1 g2 hy z2 z3 (by decide)
  obtain ⟨e1, e2⟩ := rw_in (m := vs.length) hn g2
  refine xstep h (fun cl hl => ⟨cl, ?_, hl⟩) (hw _ k1 (rU_fr k2 (bIn_all (by decide) _)) (by rw [k2.1, z4]; exact nar_256 v) (fun k hk => rU_ne k2 (by omega)))
  subst e
  simp only [amDo, amStep, amASt, g1, e2, e1, amIsI, z1, and_self, if_true, Option.map_some]
end XBE
theorem l76E {d : Nat} {hp0 : amH} {R : xQ} {x : Int32} {n : Nat} (h0 : rN hp0 1 0 = (n : Int)) (hn : n ≤ 596) (hR : ∀ hp1, bHk 84 bTT hp1 → bFr wTx hp0 hp1 → rN hp1 1 0 = (n : Int) + 4 → (∀ k, k < n → rN hp1 2 k = rN hp0 2 k) → (∀ j, j < 4 → rN hp1 2 (n + j) % 256 = byv x j) → R (.inl none) hp1) :
    ∀ (jj j : Nat) (k : Int32) (hp : amH), j + jj = 4 → k.toInt = 8 * (jj : Int) - 8 → bHk 84 bTT hp → bFr wTx hp0 hp → rN hp 1 0 = (n : Int) + (j : Int) → (∀ k, k < n → rN hp 2 k = rN hp0 2 k) → (∀ i, i < j → rN hp 2 (n + i) % 256 = byv x i) → xV d am_m76 3 [some (.ref 1), some (.int x), some (.int k)] [] hp R := by
  intro jj
  induction jj with
  | zero =>
    intro j k hp hj hk hH hF h1 h2 h3
    refine xild 4 ⟨u76, _, rfl⟩ rfl rfl ?_
    refine xif_lt 7 ⟨u76, _, rfl⟩ rfl (fun c4 => ?_) (fun c4 => ?_)
    · exact xretV ⟨u76, _, rfl⟩ rfl (hR hp hH hF (by omega) h2 (fun i hi => h3 i (by omega)))
    · omega
  | succ jj ih =>
    intro j k hp hj hk hH hF h1 h2 h3
    have b1 := b10 hH
    have ek := i_ofI (m := 24 - 8 * (j : Int)) (by omega : k.toInt = 24 - 8 * (j : Int))
    refine xild 4 ⟨u76, _, rfl⟩ rfl rfl ?_
    refine xif_lt 7 ⟨u76, _, rfl⟩ rfl (fun c4 => ?_) (fun c4 => ?_)
    · omega
    · refine xald 8 ⟨u76, _, rfl⟩ rfl rfl ?_
      refine xgetC 11 hH ⟨u76, _, rfl⟩ rfl (by decide) (by decide) rfl rfl (by decide) (fun z8 h8 => ?_)
      refine xald 12 ⟨u76, _, rfl⟩ rfl rfl ?_
      refine xgetD 15 2 hH ⟨u76, _, rfl⟩ rfl (by decide) (by decide) rfl rfl (by decide) ?_
      refine xlenB 16 hH ⟨u76, _, rfl⟩ rfl (fun z15 h15 => ?_)
      refine xcmp_ge 19 ⟨u76, _, rfl⟩ rfl (fun c16 => ?_) (fun c16 => ?_)
      · omega
      · refine xald 20 ⟨u76, _, rfl⟩ rfl rfl ?_
        refine xgetD 23 2 hH ⟨u76, _, rfl⟩ rfl (by decide) (by decide) rfl rfl (by decide) ?_
        refine xald 24 ⟨u76, _, rfl⟩ rfl rfl ?_
        refine xgetC 27 hH ⟨u76, _, rfl⟩ rfl (by decide) (by decide) rfl rfl (by decide) (fun z24 h24 => ?_)
        refine xild 28 ⟨u76, _, rfl⟩ rfl rfl ?_
        refine xild 29 ⟨u76, _, rfl⟩ rfl rfl ?_
        refine xshr 30 ⟨u76, _, rfl⟩ rfl ?_
        refine xi2bE 31 ⟨u76, _, rfl⟩ rfl (fun z30 h30 => ?_)
        refine xbastE 32 z24.toInt.toNat hH ⟨u76, _, rfl⟩ rfl (by omega) (by omega) (fun hp31 hH31 F31 V31 O31 => ?_)
        have n31 : rN hp31 1 0 = rN hp 1 0 := r_fr F31 rfl
        refine xald 33 ⟨u76, _, rfl⟩ rfl rfl ?_
        refine xdup 34 ⟨u76, _, rfl⟩ rfl rfl ?_
        refine xgetC 37 hH31 ⟨u76, _, rfl⟩ rfl (by decide) (by decide) rfl rfl (by decide) (fun z34 h34 => ?_)
        refine xcst 38 (1) ⟨u76, _, rfl⟩ rfl (by decide) (fun z37 h37 => ?_)
        refine xadd 39 _ ⟨u76, _, rfl⟩ rfl rfl (by omega) (by omega) (fun z38 h38 => ?_)
        refine xputC 42 hH31 ⟨u76, _, rfl⟩ rfl (by decide) (by decide) rfl rfl (by decide) ⟨rfl, rfl⟩ (by omega) (by omega) (fun hp39 hH39 U39 => ?_)
        have s39 := U39.1
        refine xinc 45 (-8) ⟨u76, _, rfl⟩ rfl rfl rfl (by decide) (by omega) (by omega) (fun z42 h42 => ?_)
        refine xgoto ⟨u76, _, rfl⟩ ?_
        rw [show z24.toInt.toNat = n + j by omega] at V31 O31
        exact ih (j + 1) _ hp39 (by omega) (by omega) hH39 ((hF.trans (bFr_sub F31 (by decide))).trans (rU_fr U39 (by decide))) (by omega) (fun q hq => by rw [rU_ne U39 (by omega), O31 q (by omega)]; exact h2 q hq) (fun i hi => by
          rw [rU_ne U39 (by omega)]
          by_cases e : i = j
          · rw [e, V31, h30, ek]; rfl
          · rw [O31 _ (by omega)]; exact h3 i (by omega))
theorem k_apE {d : Nat} {hp : amH} {R : xQ} {x : Int32} {n : Nat} (hH : bHk 84 bTT hp) (h0 : rN hp 1 0 = (n : Int)) (hn : n ≤ 596) (hR : ∀ hp1, bHk 84 bTT hp1 → bFr wTx hp hp1 → rN hp1 1 0 = (n : Int) + 4 → (∀ k, k < n → rN hp1 2 k = rN hp 2 k) → (∀ j, j < 4 → rN hp1 2 (n + j) % 256 = byv x j) → R (.inl none) hp1) : xK d 76 [.ref 1, .int x] hp R := by
  refine xin (M := am_m76) rfl rfl rfl ?_
  refine xbip 2 (24) ⟨u76, _, rfl⟩ rfl (by decide) (fun z0 h0' => ?_)
  refine xist 3 ⟨u76, _, rfl⟩ rfl rfl ?_
  exact l76E h0 hn hR 4 0 _ hp (by omega) (by omega) hH (bFr.refl _ _) (by omega) (fun _ _ => rfl) (fun i hi => by omega)
/-- twenty bytes behind the n that there are -/
def bytE (x1 x2 x3 x4 x5 : Int32) (j : Nat) : Int := if j < 4 then byv x1 j else if j < 8 then byv x2 (j - 4) else if j < 12 then byv x3 (j - 8) else if j < 16 then byv x4 (j - 12) else byv x5 (j - 16)
theorem k_113E {n : Nat} {d : Nat} {hp : amH} {R : xQ} {x1 x2 x3 x4 x5 : Int32} (hH : bHk 84 bTT hp) (h0 : rN hp 1 0 = (n : Int)) (hR : ∀ (z : Int32) hp1, bHk 84 bTT hp1 → bFr wTx hp hp1 → ((n ≤ 580 ∧ rN hp1 1 0 = (n : Int) + 20 ∧ z.toInt = (n : Int) + 20 ∧ (∀ k, k < n → rN hp1 2 k = rN hp 2 k) ∧ ∀ j, j < 20 → rN hp1 2 (n + j) % 256 = bytE x1 x2 x3 x4 x5 j) ∨ (580 < n ∧ hp1 = hp ∧ z.toInt = -1)) → R (.inl (some (.int z))) hp1) : xK (d + 1) 113 [.ref 0, .int x1, .int x2, .int x3, .int x4, .int x5] hp R := by
  have b1 := b10 hH
  refine xin (M := am_m113) rfl rfl rfl ?_
  refine xald 1 ⟨u113, _, rfl⟩ rfl rfl ?_
  refine xgetD 4 1 hH ⟨u113, _, rfl⟩ rfl (by decide) (by decide) rfl rfl (by decide) ?_
  refine xcallC 7 (o := 1) [] [] hH ⟨u113, _, rfl⟩ rfl rfl (by decide) rfl (by decide) rfl ⟨rfl, rfl, rfl, rfl⟩ rfl (k_hr hH (fun z4 h4 => ⟨_, rfl, ?_⟩))
  refine xif_ne 10 ⟨u113, _, rfl⟩ rfl (fun c7 => ?_) (fun c7 => ?_)
  · refine xald 13 ⟨u113, _, rfl⟩ rfl rfl ?_
    refine xgetD 16 1 hH ⟨u113, _, rfl⟩ rfl (by decide) (by decide) rfl rfl (by decide) ?_
    refine xild 17 ⟨u113, _, rfl⟩ rfl rfl ?_
    refine xcallC 20 (o := 1) [.int _] [] hH ⟨u113, _, rfl⟩ rfl rfl (by decide) rfl (by decide) rfl ⟨rfl, rfl, rfl, rfl⟩ rfl (k_apE (n := n + 0) hH (by omega) (by omega) (fun hp17 hH17 F17 N17 O17 E17 => ⟨_, rfl, ?_⟩))
    refine xald 21 ⟨u113, _, rfl⟩ rfl rfl ?_
    refine xgetD 24 1 hH17 ⟨u113, _, rfl⟩ rfl (by decide) (by decide) rfl rfl (by decide) ?_
    refine xild 25 ⟨u113, _, rfl⟩ rfl rfl ?_
    refine xcallC 28 (o := 1) [.int _] [] hH17 ⟨u113, _, rfl⟩ rfl rfl (by decide) rfl (by decide) rfl ⟨rfl, rfl, rfl, rfl⟩ rfl (k_apE (n := n + 4) hH17 (by omega) (by omega) (fun hp25 hH25 F25 N25 O25 E25 => ⟨_, rfl, ?_⟩))
    refine xald 29 ⟨u113, _, rfl⟩ rfl rfl ?_
    refine xgetD 32 1 hH25 ⟨u113, _, rfl⟩ rfl (by decide) (by decide) rfl rfl (by decide) ?_
    refine xild 33 ⟨u113, _, rfl⟩ rfl rfl ?_
    refine xcallC 36 (o := 1) [.int _] [] hH25 ⟨u113, _, rfl⟩ rfl rfl (by decide) rfl (by decide) rfl ⟨rfl, rfl, rfl, rfl⟩ rfl (k_apE (n := n + 8) hH25 (by omega) (by omega) (fun hp33 hH33 F33 N33 O33 E33 => ⟨_, rfl, ?_⟩))
    refine xald 37 ⟨u113, _, rfl⟩ rfl rfl ?_
    refine xgetD 40 1 hH33 ⟨u113, _, rfl⟩ rfl (by decide) (by decide) rfl rfl (by decide) ?_
    refine xild2 42 ⟨u113, _, rfl⟩ rfl rfl ?_
    refine xcallC 45 (o := 1) [.int _] [] hH33 ⟨u113, _, rfl⟩ rfl rfl (by decide) rfl (by decide) rfl ⟨rfl, rfl, rfl, rfl⟩ rfl (k_apE (n := n + 12) hH33 (by omega) (by omega) (fun hp42 hH42 F42 N42 O42 E42 => ⟨_, rfl, ?_⟩))
    refine xald 46 ⟨u113, _, rfl⟩ rfl rfl ?_
    refine xgetD 49 1 hH42 ⟨u113, _, rfl⟩ rfl (by decide) (by decide) rfl rfl (by decide) ?_
    refine xild2 51 ⟨u113, _, rfl⟩ rfl rfl ?_
    refine xcallC 54 (o := 1) [.int _] [] hH42 ⟨u113, _, rfl⟩ rfl rfl (by decide) rfl (by decide) rfl ⟨rfl, rfl, rfl, rfl⟩ rfl (k_apE (n := n + 16) hH42 (by omega) (by omega) (fun hp51 hH51 F51 N51 O51 E51 => ⟨_, rfl, ?_⟩))
    refine xald 55 ⟨u113, _, rfl⟩ rfl rfl ?_
    refine xgetD 58 1 hH51 ⟨u113, _, rfl⟩ rfl (by decide) (by decide) rfl rfl (by decide) ?_
    refine xgetC 61 hH51 ⟨u113, _, rfl⟩ rfl (by decide) (by decide) rfl rfl (by decide) (fun z58 h58 => ?_)
    exact xret ⟨u113, _, rfl⟩ rfl (hR _ hp51 hH51 (((((F17).trans F25).trans F33).trans F42).trans F51) (Or.inl ⟨by omega, by omega, by omega, fun k hk => by rw [O51 k (by omega), O42 k (by omega), O33 k (by omega), O25 k (by omega), O17 k hk], fun j hj => by
      unfold bytE
      by_cases g1 : j < 4
      · rw [if_pos g1, O51 _ (by omega), O42 _ (by omega), O33 _ (by omega), O25 _ (by omega)]
        exact E17 j g1
      · rw [if_neg g1]
        by_cases g2 : j < 8
        · rw [if_pos g2, O51 _ (by omega), O42 _ (by omega), O33 _ (by omega)]
          have := E25 (j - 4) (by omega)
          rw [show n + 4 + (j - 4) = n + j by omega] at this
          exact this
        · rw [if_neg g2]
          by_cases g3 : j < 12
          · rw [if_pos g3, O51 _ (by omega), O42 _ (by omega)]
            have := E33 (j - 8) (by omega)
            rw [show n + 8 + (j - 8) = n + j by omega] at this
            exact this
          · rw [if_neg g3]
            by_cases g4 : j < 16
            · rw [if_pos g4, O51 _ (by omega)]
              have := E42 (j - 12) (by omega)
              rw [show n + 12 + (j - 12) = n + j by omega] at this
              exact this
            · rw [if_neg g4]
              have := E51 (j - 16) (by omega)
              rw [show n + 16 + (j - 16) = n + j by omega] at this
              exact this⟩))
  · refine xcst 11 (-1) ⟨u113, _, rfl⟩ rfl (by decide) (fun z10 h10 => ?_)
    exact xret ⟨u113, _, rfl⟩ rfl (hR _ hp hH (bFr.refl _ _) (Or.inr ⟨by omega, rfl, by omega⟩))
theorem l238E {d : Nat} {hp0 : amH} {R : xQ} {x : Int32} {n : Nat} (h0 : rN hp0 66 21 = (n : Int)) (hn : n ≤ 596) (hR : ∀ hp1, bHk 84 bTT hp1 → bFr wAp hp0 hp1 → rN hp1 66 21 = (n : Int) + 4 → (∀ k, k < n → rN hp1 80 k = rN hp0 80 k) → (∀ j, j < 4 → rN hp1 80 (n + j) = byv x j) → R (.inl none) hp1) :
    ∀ (jj j : Nat) (k : Int32) (hp : amH), j + jj = 4 → k.toInt = 8 * (jj : Int) - 8 → bHk 84 bTT hp → bFr wAp hp0 hp → rN hp 66 21 = (n : Int) + (j : Int) → (∀ k, k < n → rN hp 80 k = rN hp0 80 k) → (∀ i, i < j → rN hp 80 (n + i) = byv x i) → xV d am_m238 3 [some (.ref 66), some (.int x), some (.int k)] [] hp R := by
  intro jj
  induction jj with
  | zero =>
    intro j k hp hj hk hH hF h1 h2 h3
    refine xild 4 ⟨u238, _, rfl⟩ rfl rfl ?_
    refine xif_lt 7 ⟨u238, _, rfl⟩ rfl (fun c4 => ?_) (fun c4 => ?_)
    · exact xretV ⟨u238, _, rfl⟩ rfl (hR hp hH hF (by omega) h2 (fun i hi => h3 i (by omega)))
    · omega
  | succ jj ih =>
    intro j k hp hj hk hH hF h1 h2 h3
    have b1 := b21 hH
    have ek := i_ofI (m := 24 - 8 * (j : Int)) (by omega : k.toInt = 24 - 8 * (j : Int))
    refine xild 4 ⟨u238, _, rfl⟩ rfl rfl ?_
    refine xif_lt 7 ⟨u238, _, rfl⟩ rfl (fun c4 => ?_) (fun c4 => ?_)
    · omega
    · refine xald 8 ⟨u238, _, rfl⟩ rfl rfl ?_
      refine xgetR 11 80 hH ⟨u238, _, rfl⟩ rfl rfl ?_
      refine xald 12 ⟨u238, _, rfl⟩ rfl rfl ?_
      refine xgetI 15 hH ⟨u238, _, rfl⟩ rfl rfl (fun z12 h12 => ?_)
      refine xild 16 ⟨u238, _, rfl⟩ rfl rfl ?_
      refine xild 17 ⟨u238, _, rfl⟩ rfl rfl ?_
      refine xshr 18 ⟨u238, _, rfl⟩ rfl ?_
      refine xsip 21 (255) ⟨u238, _, rfl⟩ rfl (by decide) (fun z18 h18 => ?_)
      refine xand 22 ⟨u238, _, rfl⟩ rfl ?_
      have a22 := and255 (x >>> (k &&& 31)) z18 h18
      refine xiast 23 (z12).toInt.toNat hH ⟨u238, _, rfl⟩ rfl (by decide) rfl (by omega) (by omega) (by omega) (by omega) (fun hp22 hH22 U22 => ?_)
      have n22 : rN hp22 66 21 = rN hp 66 21 := rU_ne U22 (by omega)
      refine xald 24 ⟨u238, _, rfl⟩ rfl rfl ?_
      refine xdup 25 ⟨u238, _, rfl⟩ rfl rfl ?_
      refine xgetI 28 hH22 ⟨u238, _, rfl⟩ rfl rfl (fun z25 h25 => ?_)
      refine xcst 29 (1) ⟨u238, _, rfl⟩ rfl (by decide) (fun z28 h28 => ?_)
      refine xadd 30 _ ⟨u238, _, rfl⟩ rfl rfl (by omega) (by omega) (fun z29 h29 => ?_)
      refine xputI 33 hH22 ⟨u238, _, rfl⟩ rfl rfl ⟨rfl, rfl⟩ (by omega) (by omega) (fun hp30 hH30 U30 => ?_)
      have s30 := U30.1
      refine xinc 36 (-8) ⟨u238, _, rfl⟩ rfl rfl rfl (by decide) (by omega) (by omega) (fun z33 h33 => ?_)
      refine xgoto ⟨u238, _, rfl⟩ ?_
      have w22 := U22.1
      rw [show (z12).toInt.toNat = n + j by omega] at w22
      exact ih (j + 1) _ hp30 (by omega) (by omega) hH30 ((hF.trans (rU_fr U22 (bIn_all (by decide) _))).trans (rU_fr U30 (by decide))) (by omega) (fun q hq => by rw [rU_ne U30 (by omega), rU_ne U22 (by omega)]; exact h2 q hq) (fun i hi => by
        rw [rU_ne U30 (by omega)]
        by_cases e : i = j
        · rw [e, w22, ek, m255 h18]; rfl
        · rw [rU_ne U22 (by omega)]; exact h3 i (by omega))
theorem k_awE {d : Nat} {hp : amH} {R : xQ} {x : Int32} {n : Nat} (hH : bHk 84 bTT hp) (h0 : rN hp 66 21 = (n : Int)) (hn : n ≤ 596) (hR : ∀ hp1, bHk 84 bTT hp1 → bFr wAp hp hp1 → rN hp1 66 21 = (n : Int) + 4 → (∀ k, k < n → rN hp1 80 k = rN hp 80 k) → (∀ j, j < 4 → rN hp1 80 (n + j) = byv x j) → R (.inl none) hp1) : xK d 238 [.ref 66, .int x] hp R := by
  refine xin (M := am_m238) rfl rfl rfl ?_
  refine xbip 2 (24) ⟨u238, _, rfl⟩ rfl (by decide) (fun z0 h0' => ?_)
  refine xist 3 ⟨u238, _, rfl⟩ rfl rfl ?_
  exact l238E h0 hn hR 4 0 _ hp (by omega) (by omega) hH (bFr.refl _ _) (by omega) (fun _ _ => rfl) (fun i hi => by omega)
theorem k_239E {n : Nat} {d : Nat} {hp : amH} {R : xQ} {x1 x2 x3 x4 x5 : Int32} (hH : bHk 84 bTT hp) (h0 : rN hp 66 21 = (n : Int)) (hR : ∀ (z : Int32) hp1, bHk 84 bTT hp1 → bFr ((66, 7) :: wAp) hp hp1 → ((n ≤ 580 ∧ rN hp1 66 21 = (n : Int) + 20 ∧ z.toInt = (n : Int) + 20 ∧ (∀ k, k < n → rN hp1 80 k = rN hp 80 k) ∧ ∀ j, j < 20 → rN hp1 80 (n + j) = bytE x1 x2 x3 x4 x5 j) ∨ (580 < n ∧ rN hp1 66 21 = rN hp 66 21 ∧ (∀ k, rN hp1 80 k = rN hp 80 k) ∧ z.toInt = -1)) → R (.inl (some (.int z))) hp1) : xK (d + 1) 239 [.ref 66, .int x1, .int x2, .int x3, .int x4, .int x5] hp R := by
  have b1 := b21 hH
  refine xin (M := am_m239) rfl rfl rfl ?_
  refine xald 1 ⟨u239, _, rfl⟩ rfl rfl ?_
  refine xcst 2 (0) ⟨u239, _, rfl⟩ rfl (by decide) (fun z1 h1 => ?_)
  refine xputI 5 hH ⟨u239, _, rfl⟩ rfl rfl ⟨rfl, rfl⟩ (by omega) (by omega) (fun hp2 hH2 U2 => ?_)
  have n2 : rN hp2 66 21 = rN hp 66 21 := rU_ne U2 (by omega)
  refine xald 6 ⟨u239, _, rfl⟩ rfl rfl ?_
  refine xgetI 9 hH2 ⟨u239, _, rfl⟩ rfl rfl (fun z6 h6 => ?_)
  refine xbip 11 (20) ⟨u239, _, rfl⟩ rfl (by decide) (fun z9 h9 => ?_)
  refine xadd 12 _ ⟨u239, _, rfl⟩ rfl rfl (by omega) (by omega) (fun z11 h11 => ?_)
  refine xsip 15 (600) ⟨u239, _, rfl⟩ rfl (by decide) (fun z12 h12 => ?_)
  refine xcmp_le 18 ⟨u239, _, rfl⟩ rfl (fun c15 => ?_) (fun c15 => ?_)
  · refine xald 21 ⟨u239, _, rfl⟩ rfl rfl ?_
    refine xild 22 ⟨u239, _, rfl⟩ rfl rfl ?_
    refine xcall 25 [.ref 66, .int _] [] hH2 ⟨u239, _, rfl⟩ rfl rfl rfl rfl rfl (k_awE (n := n + 0) hH2 (by omega) (by omega) (fun hp22 hH22 F22 N22 O22 E22 => ⟨_, rfl, ?_⟩))
    refine xald 26 ⟨u239, _, rfl⟩ rfl rfl ?_
    refine xild 27 ⟨u239, _, rfl⟩ rfl rfl ?_
    refine xcall 30 [.ref 66, .int _] [] hH22 ⟨u239, _, rfl⟩ rfl rfl rfl rfl rfl (k_awE (n := n + 4) hH22 (by omega) (by omega) (fun hp27 hH27 F27 N27 O27 E27 => ⟨_, rfl, ?_⟩))
    refine xald 31 ⟨u239, _, rfl⟩ rfl rfl ?_
    refine xild 32 ⟨u239, _, rfl⟩ rfl rfl ?_
    refine xcall 35 [.ref 66, .int _] [] hH27 ⟨u239, _, rfl⟩ rfl rfl rfl rfl rfl (k_awE (n := n + 8) hH27 (by omega) (by omega) (fun hp32 hH32 F32 N32 O32 E32 => ⟨_, rfl, ?_⟩))
    refine xald 36 ⟨u239, _, rfl⟩ rfl rfl ?_
    refine xild2 38 ⟨u239, _, rfl⟩ rfl rfl ?_
    refine xcall 41 [.ref 66, .int _] [] hH32 ⟨u239, _, rfl⟩ rfl rfl rfl rfl rfl (k_awE (n := n + 12) hH32 (by omega) (by omega) (fun hp38 hH38 F38 N38 O38 E38 => ⟨_, rfl, ?_⟩))
    refine xald 42 ⟨u239, _, rfl⟩ rfl rfl ?_
    refine xild2 44 ⟨u239, _, rfl⟩ rfl rfl ?_
    refine xcall 47 [.ref 66, .int _] [] hH38 ⟨u239, _, rfl⟩ rfl rfl rfl rfl rfl (k_awE (n := n + 16) hH38 (by omega) (by omega) (fun hp44 hH44 F44 N44 O44 E44 => ⟨_, rfl, ?_⟩))
    refine xald 48 ⟨u239, _, rfl⟩ rfl rfl ?_
    refine xgetI 51 hH44 ⟨u239, _, rfl⟩ rfl rfl (fun z48 h48 => ?_)
    exact xret ⟨u239, _, rfl⟩ rfl (hR _ hp44 hH44 ((rU_fr U2 (by decide)).trans (bFr_sub (((((F22).trans F27).trans F32).trans F38).trans F44) (by decide))) (Or.inl ⟨by omega, by omega, by omega, fun k hk => by rw [O44 k (by omega), O38 k (by omega), O32 k (by omega), O27 k (by omega), O22 k hk, rU_ne U2 (by omega)], fun j hj => by
      unfold bytE
      by_cases g1 : j < 4
      · rw [if_pos g1, O44 _ (by omega), O38 _ (by omega), O32 _ (by omega), O27 _ (by omega)]
        exact E22 j g1
      · rw [if_neg g1]
        by_cases g2 : j < 8
        · rw [if_pos g2, O44 _ (by omega), O38 _ (by omega), O32 _ (by omega)]
          have := E27 (j - 4) (by omega)
          rw [show n + 4 + (j - 4) = n + j by omega] at this
          exact this
        · rw [if_neg g2]
          by_cases g3 : j < 12
          · rw [if_pos g3, O44 _ (by omega), O38 _ (by omega)]
            have := E32 (j - 8) (by omega)
            rw [show n + 8 + (j - 8) = n + j by omega] at this
            exact this
          · rw [if_neg g3]
            by_cases g4 : j < 16
            · rw [if_pos g4, O44 _ (by omega)]
              have := E38 (j - 12) (by omega)
              rw [show n + 12 + (j - 12) = n + j by omega] at this
              exact this
            · rw [if_neg g4]
              have := E44 (j - 16) (by omega)
              rw [show n + 16 + (j - 16) = n + j by omega] at this
              exact this⟩))
  · refine xcst 19 (-1) ⟨u239, _, rfl⟩ rfl (by decide) (fun z18 h18 => ?_)
    exact xret ⟨u239, _, rfl⟩ rfl (hR _ hp2 hH2 (rU_fr U2 (by decide)) (Or.inr ⟨by omega, by omega, fun k => rU_ne U2 (by omega), by omega⟩))
