/-! ##### 19.m.020.27a ##### -/
section
/-! ===== the text's bytes, the same on both sides ===== -/
/-- the byte j of a word -/
def byv (x : Int32) (j : Nat) : Int := (x >>> (Int32.ofInt (24 - 8 * (j : Int)) &&& 31)).toInt % 256
theorem i_ofI {k : Int32} {m : Int} (h : k.toInt = m) : k = Int32.ofInt m := by rw [← h, Int32.ofInt_toInt]
theorem bmod_256 (x : Int) : x.bmod 256 % 256 = x % 256 := by
  unfold Int.bmod
  dsimp only
  split <;> omega
theorem nar_256 (x : Int32) : (vp_nar .byte x).toInt % 256 = x.toInt % 256 := by
  have e : (vp_nar .byte x).toInt = x.toInt.bmod 256 := by
    show (x.toInt8.toInt32).toInt = _
    rw [Int8.toInt_toInt32, Int32.toInt_toInt8]
  rw [e, bmod_256]
section XBE
variable {M : amM} {pc a b d : Nat} {L : List (Option Value)} {st : List Value} {hp : amH} {Q : xQ}
theorem xi2bE (q : Nat) {x : Int32} (h : xI M pc .i2b a b) (e : q = pc + 1) (hw : ∀ z : Int32, z.toInt % 256 = x.toInt % 256 → xV d M q L (.int z :: st) hp Q) : xV d M pc L (.int x :: st) hp Q := by
  refine xstep h (fun cl hl => ⟨cl, ?_, hl⟩) (hw x.toInt8.toInt32 (nar_256 x))
  subst e
  simp [amDo, amStep, amI]
theorem xbastE (q m : Nat) {x v : Int32} (hH : bHk 84 bTT hp) (h : xI M pc .bastore a b) (e : q = pc + 1) (hn : x.toInt = (m : Int)) (hl : m < 600)
    (hw : ∀ hp1, bHk 84 bTT hp1 → bFr [(2, 999)] hp hp1 → rN hp1 2 m % 256 = v.toInt % 256 → (∀ k, ¬ k = m → rN hp1 2 k = rN hp 2 k) → xV d M q L st hp1 Q) : xV d M pc L (.int v :: .int x :: .ref 2 :: st) hp Q := by
  obtain ⟨z, z1, z2, z3⟩ := bNarB_s v
  have z4 : z = vp_nar .byte v := by cases z1; rfl
  have hy : bDy (34, 600, [.inl (2147483520, 2147483775)]) m = some (.inl (2147483520, 2147483775)) := rfl
  obtain ⟨vs, g1, g2, -⟩ := x_fI hH (c := 2) (by decide) rfl hy hl
  obtain ⟨k1, k2⟩ := x_set hH (x := z) (c := 2) rfl g1 g2 hy z2 z3 (by decide)
  obtain ⟨e1, e2⟩ := rw_in (m := vs.length) hn g2
  refine xstep h (fun cl hl => ⟨cl, ?_, hl⟩) (hw _ k1 (rU_fr k2 (bIn_all (by decide) _)) (by rw [k2.1, z4]; exact nar_256 v) (fun k hk => rU_ne k2 (by omega)))
  subst e
  simp only [amDo, amStep, amASt, g1, e2, e1, amIsI, z1, and_self, if_true, Option.map_some]
end XBE
theorem l76E {d : Nat} {hp0 : amH} {R : xQ} {x : Int32} {n : Nat} (h0 : rN hp0 1 0 = (n : Int)) (hn : n ≤ 596) (hR : ∀ hp1, bHk 84 bTT hp1 → bFr wTx hp0 hp1 → rN hp1 1 0 = (n : Int) + 4 → (∀ k, k < n → rN hp1 2 k = rN hp0 2 k) → (∀ j, j < 4 → rN hp1 2 (n + j) % 256 = byv x j) → R (.inl none) hp1) :
    ∀ (jj j : Nat) (k : Int32) (hp : amH), j + jj = 4 → k.toInt = 8 * (jj : Int) - 8 → bHk 84 bTT hp → bFr wTx hp0 hp → rN hp 1 0 = (n : Int) + (j : Int) → (∀ k, k < n → rN hp 2 k = rN hp0 2 k) → (∀ i, i < j → rN hp 2 (n + i) % 256 = byv x i) → xV d am_m76 3 [some (.ref 1), some (.int x), some (.int k)] [] hp R := by
  intro jj
  induction jj with
  | zero =>
    intro j k hp hj hk hH hF h1 h2 h3
    refine xild 4 ⟨u76, _, rfl⟩ rfl rfl ?_
    refine xif_lt 7 ⟨u76, _, rfl⟩ rfl (fun c4 => ?_) (fun c4 => ?_)
    · exact xretV ⟨u76, _, rfl⟩ rfl (hR hp hH hF (by omega) h2 (fun i hi => h3 i (by omega)))
    · omega
  | succ jj ih =>
    intro j k hp hj hk hH hF h1 h2 h3
    have b1 := b10 hH
    have ek := i_ofI (m := 24 - 8 * (j : Int)) (by omega : k.toInt = 24 - 8 * (j : Int))
    refine xild 4 ⟨u76, _, rfl⟩ rfl rfl ?_
    refine xif_lt 7 ⟨u76, _, rfl⟩ rfl (fun c4 => ?_) (fun c4 => ?_)
    · omega
    · refine xald 8 ⟨u76, _, rfl⟩ rfl rfl ?_
      refine xgetC 11 hH ⟨u76, _, rfl⟩ rfl (by decide) (by decide) rfl rfl (by decide) (fun z8 h8 => ?_)
      refine xald 12 ⟨u76, _, rfl⟩ rfl rfl ?_
      refine xgetD 15 2 hH ⟨u76, _, rfl⟩ rfl (by decide) (by decide) rfl rfl (by decide) ?_
      refine xlenB 16 hH ⟨u76, _, rfl⟩ rfl (fun z15 h15 => ?_)
      refine xcmp_ge 19 ⟨u76, _, rfl⟩ rfl (fun c16 => ?_) (fun c16 => ?_)
      · omega
      · refine xald 20 ⟨u76, _, rfl⟩ rfl rfl ?_
        refine xgetD 23 2 hH ⟨u76, _, rfl⟩ rfl (by decide) (by decide) rfl rfl (by decide) ?_
        refine xald 24 ⟨u76, _, rfl⟩ rfl rfl ?_
        refine xgetC 27 hH ⟨u76, _, rfl⟩ rfl (by decide) (by decide) rfl rfl (by decide) (fun z24 h24 => ?_)
        refine xild 28 ⟨u76, _, rfl⟩ rfl rfl ?_
        refine xild 29 ⟨u76, _, rfl⟩ rfl rfl ?_
        refine xshr 30 ⟨u76, _, rfl⟩ rfl ?_
        refine xi2bE 31 ⟨u76, _, rfl⟩ rfl (fun z30 h30 => ?_)
        refine xbastE 32 z24.toInt.toNat hH ⟨u76, _, rfl⟩ rfl (by omega) (by omega) (fun hp31 hH31 F31 V31 O31 => ?_)
        have n31 : rN hp31 1 0 = rN hp 1 0 := r_fr F31 rfl
        refine xald 33 ⟨u76, _, rfl⟩ rfl rfl ?_
        refine xdup 34 ⟨u76, _, rfl⟩ rfl rfl ?_
        refine xgetC 37 hH31 ⟨u76, _, rfl⟩ rfl (by decide) (by decide) rfl rfl (by decide) (fun z34 h34 => ?_)
        refine xcst 38 (1) ⟨u76, _, rfl⟩ rfl (by decide) (fun z37 h37 => ?_)
        refine xadd 39 _ ⟨u76, _, rfl⟩ rfl rfl (by omega) (by omega) (fun z38 h38 => ?_)
        refine xputC 42 hH31 ⟨u76, _, rfl⟩ rfl (by decide) (by decide) rfl rfl (by decide) ⟨rfl, rfl⟩ (by omega) (by omega) (fun hp39 hH39 U39 => ?_)
        have s39 := U39.1
        refine xinc 45 (-8) ⟨u76, _, rfl⟩ rfl rfl rfl (by decide) (by omega) (by omega) (fun z42 h42 => ?_)
        refine xgoto ⟨u76, _, rfl⟩ ?_
        rw [show z24.toInt.toNat = n + j by omega] at V31 O31
        exact ih (j + 1) _ hp39 (by omega) (by omega) hH39 ((hF.trans (bFr_sub F31 (by decide))).trans (rU_fr U39 (by decide))) (by omega) (fun q hq => by rw [rU_ne U39 (by omega), O31 q (by omega)]; exact h2 q hq) (fun i hi => by
          rw [rU_ne U39 (by omega)]
          by_cases e : i = j
          · rw [e, V31, h30, ek]; rfl
          · rw [O31 _ (by omega)]; exact h3 i (by omega))
theorem k_apE {d : Nat} {hp : amH} {R : xQ} {x : Int32} {n : Nat} (hH : bHk 84 bTT hp) (h0 : rN hp 1 0 = (n : Int)) (hn : n ≤ 596) (hR : ∀ hp1, bHk 84 bTT hp1 → bFr wTx hp hp1 → rN hp1 1 0 = (n : Int) + 4 → (∀ k, k < n → rN hp1 2 k = rN hp 2 k) → (∀ j, j < 4 → rN hp1 2 (n + j) % 256 = byv x j) → R (.inl none) hp1) : xK d 76 [.ref 1, .int x] hp R := by
  refine xin (M := am_m76) rfl rfl rfl ?_
  refine xbip 2 (24) ⟨u76, _, rfl⟩ rfl (by decide) (fun z0 h0' => ?_)
  refine xist 3 ⟨u76, _, rfl⟩ rfl rfl ?_
  exact l76E h0 hn hR 4 0 _ hp (by omega) (by omega) hH (bFr.refl _ _) (by omega) (fun _ _ => rfl) (fun i hi => by omega)
/-- twenty bytes behind the n that there are -/
def bytE (x1 x2 x3 x4 x5 : Int32) (j : Nat) : Int := if j < 4 then byv x1 j else if j < 8 then byv x2 (j - 4) else if j < 12 then byv x3 (j - 8) else if j < 16 then byv x4 (j - 12) else byv x5 (j - 16)
theorem k_113E {n : Nat} {d : Nat} {hp : amH} {R : xQ} {x1 x2 x3 x4 x5 : Int32} (hH : bHk 84 bTT hp) (h0 : rN hp 1 0 = (n : Int)) (hR : ∀ (z : Int32) hp1, bHk 84 bTT hp1 → bFr wTx hp hp1 → ((n ≤ 580 ∧ rN hp1 1 0 = (n : Int) + 20 ∧ z.toInt = (n : Int) + 20 ∧ (∀ k, k < n → rN hp1 2 k = rN hp 2 k) ∧ ∀ j, j < 20 → rN hp1 2 (n + j) % 256 = bytE x1 x2 x3 x4 x5 j) ∨ (580 < n ∧ hp1 = hp ∧ z.toInt = -1)) → R (.inl (some (.int z))) hp1) : xK (d + 1) 113 [.ref 0, .int x1, .int x2, .int x3, .int x4, .int x5] hp R := by
  have b1 := b10 hH
  refine xin (M := am_m113) rfl rfl rfl ?_
  refine xald 1 ⟨u113, _, rfl⟩ rfl rfl ?_
  refine xgetD 4 1 hH ⟨u113, _, rfl⟩ rfl (by decide) (by decide) rfl rfl (by decide) ?_
  refine xcallC 7 (o := 1) [] [] hH ⟨u113, _, rfl⟩ rfl rfl (by decide) rfl (by decide) rfl ⟨rfl, rfl, rfl, rfl⟩ rfl (k_hr hH (fun z4 h4 => ⟨_, rfl, ?_⟩))
  refine xif_ne 10 ⟨u113, _, rfl⟩ rfl (fun c7 => ?_) (fun c7 => ?_)
  · refine xald 13 ⟨u113, _, rfl⟩ rfl rfl ?_
    refine xgetD 16 1 hH ⟨u113, _, rfl⟩ rfl (by decide) (by decide) rfl rfl (by decide) ?_
    refine xild 17 ⟨u113, _, rfl⟩ rfl rfl ?_
    refine xcallC 20 (o := 1) [.int _] [] hH ⟨u113, _, rfl⟩ rfl rfl (by decide) rfl (by decide) rfl ⟨rfl, rfl, rfl, rfl⟩ rfl (k_apE (n := n + 0) hH (by omega) (by omega) (fun hp17 hH17 F17 N17 O17 E17 => ⟨_, rfl, ?_⟩))
    refine xald 21 ⟨u113, _, rfl⟩ rfl rfl ?_
    refine xgetD 24 1 hH17 ⟨u113, _, rfl⟩ rfl (by decide) (by decide) rfl rfl (by decide) ?_
    refine xild 25 ⟨u113, _, rfl⟩ rfl rfl ?_
    refine xcallC 28 (o := 1) [.int _] [] hH17 ⟨u113, _, rfl⟩ rfl rfl (by decide) rfl (by decide) rfl ⟨rfl, rfl, rfl, rfl⟩ rfl (k_apE (n := n + 4) hH17 (by omega) (by omega) (fun hp25 hH25 F25 N25 O25 E25 => ⟨_, rfl, ?_⟩))
    refine xald 29 ⟨u113, _, rfl⟩ rfl rfl ?_
    refine xgetD 32 1 hH25 ⟨u113, _, rfl⟩ rfl (by decide) (by decide) rfl rfl (by decide) ?_
    refine xild 33 ⟨u113, _, rfl⟩ rfl rfl ?_
    refine xcallC 36 (o := 1) [.int _] [] hH25 ⟨u113, _, rfl⟩ rfl rfl (by decide) rfl (by decide) rfl ⟨rfl, rfl, rfl, rfl⟩ rfl (k_apE (n := n + 8) hH25 (by omega) (by omega) (fun hp33 hH33 F33 N33 O33 E33 => ⟨_, rfl, ?_⟩))
    refine xald 37 ⟨u113, _, rfl⟩ rfl rfl ?_
    refine xgetD 40 1 hH33 ⟨u113, _, rfl⟩ rfl (by decide) (by decide) rfl rfl (by decide) ?_
    refine xild2 42 ⟨u113, _, rfl⟩ rfl rfl ?_
    refine xcallC 45 (o := 1) [.int _] [] hH33 ⟨u113, _, rfl⟩ rfl rfl (by decide) rfl (by decide) rfl ⟨rfl, rfl, rfl, rfl⟩ rfl (k_apE (n := n + 12) hH33 (by omega) (by omega) (fun hp42 hH42 F42 N42 O42 E42 => ⟨_, rfl, ?_⟩))
    refine xald 46 ⟨u113, _, rfl⟩ rfl rfl ?_
    refine xgetD 49 1 hH42 ⟨u113, _, rfl⟩ rfl (by decide) (by decide) rfl rfl (by decide) ?_
    refine xild2 51 ⟨u113, _, rfl⟩ rfl rfl ?_
    refine xcallC 54 (o := 1) [.int _] [] hH42 ⟨u113, _, rfl⟩ rfl rfl (by decide) rfl (by decide) rfl ⟨rfl, rfl, rfl, rfl⟩ rfl (k_apE (n := n + 16) hH42 (by omega) (by omega) (fun hp51 hH51 F51 N51 O51 E51 => ⟨_, rfl, ?_⟩))
    refine xald 55 ⟨u113, _, rfl⟩ rfl rfl ?_
    refine xgetD 58 1 hH51 ⟨u113, _, rfl⟩ rfl (by decide) (by decide) rfl rfl (by decide) ?_
    refine xgetC 61 hH51 ⟨u113, _, rfl⟩ rfl (by decide) (by decide) rfl rfl (by decide) (fun z58 h58 => ?_)
    exact xret ⟨u113, _, rfl⟩ rfl (hR _ hp51 hH51 (((((F17).trans F25).trans F33).trans F42).trans F51) (Or.inl ⟨by omega, by omega, by omega, fun k hk => by rw [O51 k (by omega), O42 k (by omega), O33 k (by omega), O25 k (by omega), O17 k hk], fun j hj => by
      unfold bytE
      by_cases g1 : j < 4
      · rw [if_pos g1, O51 _ (by omega), O42 _ (by omega), O33 _ (by omega), O25 _ (by omega)]
        exact E17 j g1
      · rw [if_neg g1]
        by_cases g2 : j < 8
        · rw [if_pos g2, O51 _ (by omega), O42 _ (by omega), O33 _ (by omega)]
          have := E25 (j - 4) (by omega)
          rw [show n + 4 + (j - 4) = n + j by omega] at this
          exact this
        · rw [if_neg g2]
          by_cases g3 : j < 12
          · rw [if_pos g3, O51 _ (by omega), O42 _ (by omega)]
            have := E33 (j - 8) (by omega)
            rw [show n + 8 + (j - 8) = n + j by omega] at this
            exact this
          · rw [if_neg g3]
            by_cases g4 : j < 16
            · rw [if_pos g4, O51 _ (by omega)]
              have := E42 (j - 12) (by omega)
              rw [show n + 12 + (j - 12) = n + j by omega] at this
              exact this
            · rw [if_neg g4]
              have := E51 (j - 16) (by omega)
              rw [show n + 16 + (j - 16) = n + j by omega] at this
              exact this⟩))
  · refine xcst 11 (-1) ⟨u113, _, rfl⟩ rfl (by decide) (fun z10 h10 => ?_)
    exact xret ⟨u113, _, rfl⟩ rfl (hR _ hp hH (bFr.refl _ _) (Or.inr ⟨by omega, rfl, by omega⟩))
theorem l238E {d : Nat} {hp0 : amH} {R : xQ} {x : Int32} {n : Nat} (h0 : rN hp0 66 21 = (n : Int)) (hn : n ≤ 596) (hR : ∀ hp1, bHk 84 bTT hp1 → bFr wAp hp0 hp1 → rN hp1 66 21 = (n : Int) + 4 → (∀ k, k < n → rN hp1 80 k = rN hp0 80 k) → (∀ j, j < 4 → rN hp1 80 (n + j) = byv x j) → R (.inl none) hp1) :
    ∀ (jj j : Nat) (k : Int32) (hp : amH), j + jj = 4 → k.toInt = 8 * (jj : Int) - 8 → bHk 84 bTT hp → bFr wAp hp0 hp → rN hp 66 21 = (n : Int) + (j : Int) → (∀ k, k < n → rN hp 80 k = rN hp0 80 k) → (∀ i, i < j → rN hp 80 (n + i) = byv x i) → xV d am_m238 3 [some (.ref 66), some (.int x), some (.int k)] [] hp R := by
  intro jj
  induction jj with
  | zero =>
    intro j k hp hj hk hH hF h1 h2 h3
    refine xild 4 ⟨u238, _, rfl⟩ rfl rfl ?_
    refine xif_lt 7 ⟨u238, _, rfl⟩ rfl (fun c4 => ?_) (fun c4 => ?_)
    · exact xretV ⟨u238, _, rfl⟩ rfl (hR hp hH hF (by omega) h2 (fun i hi => h3 i (by omega)))
    · omega
  | succ jj ih =>
    intro j k hp hj hk hH hF h1 h2 h3
    have b1 := b21 hH
    have ek := i_ofI (m := 24 - 8 * (j : Int)) (by omega : k.toInt = 24 - 8 * (j : Int))
    refine xild 4 ⟨u238, _, rfl⟩ rfl rfl ?_
    refine xif_lt 7 ⟨u238, _, rfl⟩ rfl (fun c4 => ?_) (fun c4 => ?_)
    · omega
    · refine xald 8 ⟨u238, _, rfl⟩ rfl rfl ?_
      refine xgetR 11 80 hH ⟨u238, _, rfl⟩ rfl rfl ?_
      refine xald 12 ⟨u238, _, rfl⟩ rfl rfl ?_
      refine xgetI 15 hH ⟨u238, _, rfl⟩ rfl rfl (fun z12 h12 => ?_)
      refine xild 16 ⟨u238, _, rfl⟩ rfl rfl ?_
      refine xild 17 ⟨u238, _, rfl⟩ rfl rfl ?_
      refine xshr 18 ⟨u238, _, rfl⟩ rfl ?_
      refine xsip 21 (255) ⟨u238, _, rfl⟩ rfl (by decide) (fun z18 h18 => ?_)
      refine xand 22 ⟨u238, _, rfl⟩ rfl ?_
      have a22 := and255 (x >>> (k &&& 31)) z18 h18
      refine xiast 23 (z12).toInt.toNat hH ⟨u238, _, rfl⟩ rfl (by decide) rfl (by omega) (by omega) (by omega) (by omega) (fun hp22 hH22 U22 => ?_)
      have n22 : rN hp22 66 21 = rN hp 66 21 := rU_ne U22 (by omega)
      refine xald 24 ⟨u238, _, rfl⟩ rfl rfl ?_
      refine xdup 25 ⟨u238, _, rfl⟩ rfl rfl ?_
      refine xgetI 28 hH22 ⟨u238, _, rfl⟩ rfl rfl (fun z25 h25 => ?_)
      refine xcst 29 (1) ⟨u238, _, rfl⟩ rfl (by decide) (fun z28 h28 => ?_)
      refine xadd 30 _ ⟨u238, _, rfl⟩ rfl rfl (by omega) (by omega) (fun z29 h29 => ?_)
      refine xputI 33 hH22 ⟨u238, _, rfl⟩ rfl rfl ⟨rfl, rfl⟩ (by omega) (by omega) (fun hp30 hH30 U30 => ?_)
      have s30 := U30.1
      refine xinc 36 (-8) ⟨u238, _, rfl⟩ rfl rfl rfl (by decide) (by omega) (by omega) (fun z33 h33 => ?_)
      refine xgoto ⟨u238, _, rfl⟩ ?_
      have w22 := U22.1
      rw [show (z12).toInt.toNat = n + j by omega] at w22
      exact ih (j + 1) _ hp30 (by omega) (by omega) hH30 ((hF.trans (rU_fr U22 (bIn_all (by decide) _))).trans (rU_fr U30 (by decide))) (by omega) (fun q hq => by rw [rU_ne U30 (by omega), rU_ne U22 (by omega)]; exact h2 q hq) (fun i hi => by
        rw [rU_ne U30 (by omega)]
        by_cases e : i = j
        · rw [e, w22, ek, m255 h18]; rfl
        · rw [rU_ne U22 (by omega)]; exact h3 i (by omega))
theorem k_awE {d : Nat} {hp : amH} {R : xQ} {x : Int32} {n : Nat} (hH : bHk 84 bTT hp) (h0 : rN hp 66 21 = (n : Int)) (hn : n ≤ 596) (hR : ∀ hp1, bHk 84 bTT hp1 → bFr wAp hp hp1 → rN hp1 66 21 = (n : Int) + 4 → (∀ k, k < n → rN hp1 80 k = rN hp 80 k) → (∀ j, j < 4 → rN hp1 80 (n + j) = byv x j) → R (.inl none) hp1) : xK d 238 [.ref 66, .int x] hp R := by
  refine xin (M := am_m238) rfl rfl rfl ?_
  refine xbip 2 (24) ⟨u238, _, rfl⟩ rfl (by decide) (fun z0 h0' => ?_)
  refine xist 3 ⟨u238, _, rfl⟩ rfl rfl ?_
  exact l238E h0 hn hR 4 0 _ hp (by omega) (by omega) hH (bFr.refl _ _) (by omega) (fun _ _ => rfl) (fun i hi => by omega)
theorem k_239E {n : Nat} {d : Nat} {hp : amH} {R : xQ} {x1 x2 x3 x4 x5 : Int32} (hH : bHk 84 bTT hp) (h0 : rN hp 66 21 = (n : Int)) (hR : ∀ (z : Int32) hp1, bHk 84 bTT hp1 → bFr ((66, 7) :: wAp) hp hp1 → ((n ≤ 580 ∧ rN hp1 66 21 = (n : Int) + 20 ∧ z.toInt = (n : Int) + 20 ∧ (∀ k, k < n → rN hp1 80 k = rN hp 80 k) ∧ ∀ j, j < 20 → rN hp1 80 (n + j) = bytE x1 x2 x3 x4 x5 j) ∨ (580 < n ∧ rN hp1 66 21 = rN hp 66 21 ∧ (∀ k, rN hp1 80 k = rN hp 80 k) ∧ z.toInt = -1)) → R (.inl (some (.int z))) hp1) : xK (d + 1) 239 [.ref 66, .int x1, .int x2, .int x3, .int x4, .int x5] hp R := by
  have b1 := b21 hH
  refine xin (M := am_m239) rfl rfl rfl ?_
  refine xald 1 ⟨u239, _, rfl⟩ rfl rfl ?_
  refine xcst 2 (0) ⟨u239, _, rfl⟩ rfl (by decide) (fun z1 h1 => ?_)
  refine xputI 5 hH ⟨u239, _, rfl⟩ rfl rfl ⟨rfl, rfl⟩ (by omega) (by omega) (fun hp2 hH2 U2 => ?_)
  have n2 : rN hp2 66 21 = rN hp 66 21 := rU_ne U2 (by omega)
  refine xald 6 ⟨u239, _, rfl⟩ rfl rfl ?_
  refine xgetI 9 hH2 ⟨u239, _, rfl⟩ rfl rfl (fun z6 h6 => ?_)
  refine xbip 11 (20) ⟨u239, _, rfl⟩ rfl (by decide) (fun z9 h9 => ?_)
  refine xadd 12 _ ⟨u239, _, rfl⟩ rfl rfl (by omega) (by omega) (fun z11 h11 => ?_)
  refine xsip 15 (600) ⟨u239, _, rfl⟩ rfl (by decide) (fun z12 h12 => ?_)
  refine xcmp_le 18 ⟨u239, _, rfl⟩ rfl (fun c15 => ?_) (fun c15 => ?_)
  · refine xald 21 ⟨u239, _, rfl⟩ rfl rfl ?_
    refine xild 22 ⟨u239, _, rfl⟩ rfl rfl ?_
    refine xcall 25 [.ref 66, .int _] [] hH2 ⟨u239, _, rfl⟩ rfl rfl rfl rfl rfl (k_awE (n := n + 0) hH2 (by omega) (by omega) (fun hp22 hH22 F22 N22 O22 E22 => ⟨_, rfl, ?_⟩))
    refine xald 26 ⟨u239, _, rfl⟩ rfl rfl ?_
    refine xild 27 ⟨u239, _, rfl⟩ rfl rfl ?_
    refine xcall 30 [.ref 66, .int _] [] hH22 ⟨u239, _, rfl⟩ rfl rfl rfl rfl rfl (k_awE (n := n + 4) hH22 (by omega) (by omega) (fun hp27 hH27 F27 N27 O27 E27 => ⟨_, rfl, ?_⟩))
    refine xald 31 ⟨u239, _, rfl⟩ rfl rfl ?_
    refine xild 32 ⟨u239, _, rfl⟩ rfl rfl ?_
    refine xcall 35 [.ref 66, .int _] [] hH27 ⟨u239, _, rfl⟩ rfl rfl rfl rfl rfl (k_awE (n := n + 8) hH27 (by omega) (by omega) (fun hp32 hH32 F32 N32 O32 E32 => ⟨_, rfl, ?_⟩))
    refine xald 36 ⟨u239, _, rfl⟩ rfl rfl ?_
    refine xild2 38 ⟨u239, _, rfl⟩ rfl rfl ?_
    refine xcall 41 [.ref 66, .int _] [] hH32 ⟨u239, _, rfl⟩ rfl rfl rfl rfl rfl (k_awE (n := n + 12) hH32 (by omega) (by omega) (fun hp38 hH38 F38 N38 O38 E38 => ⟨_, rfl, ?_⟩))
    refine xald 42 ⟨u239, _, rfl⟩ rfl rfl ?_
    refine xild2 44 ⟨u239, _, rfl⟩ rfl rfl ?_
    refine xcall 47 [.ref 66, .int _] [] hH38 ⟨u239, _, rfl⟩ rfl rfl rfl rfl rfl (k_awE (n := n + 16) hH38 (by omega) (by omega) (fun hp44 hH44 F44 N44 O44 E44 => ⟨_, rfl, ?_⟩))
    refine xald 48 ⟨u239, _, rfl⟩ rfl rfl ?_
    refine xgetI 51 hH44 ⟨u239, _, rfl⟩ rfl rfl (fun z48 h48 => ?_)
    exact xret ⟨u239, _, rfl⟩ rfl (hR _ hp44 hH44 ((rU_fr U2 (by decide)).trans (bFr_sub (((((F22).trans F27).trans F32).trans F38).trans F44) (by decide))) (Or.inl ⟨by omega, by omega, by omega, fun k hk => by rw [O44 k (by omega), O38 k (by omega), O32 k (by omega), O27 k (by omega), O22 k hk, rU_ne U2 (by omega)], fun j hj => by
      unfold bytE
      by_cases g1 : j < 4
      · rw [if_pos g1, O44 _ (by omega), O38 _ (by omega), O32 _ (by omega), O27 _ (by omega)]
        exact E22 j g1
      · rw [if_neg g1]
        by_cases g2 : j < 8
        · rw [if_pos g2, O44 _ (by omega), O38 _ (by omega), O32 _ (by omega)]
          have := E27 (j - 4) (by omega)
          rw [show n + 4 + (j - 4) = n + j by omega] at this
          exact this
        · rw [if_neg g2]
          by_cases g3 : j < 12
          · rw [if_pos g3, O44 _ (by omega), O38 _ (by omega)]
            have := E32 (j - 8) (by omega)
            rw [show n + 8 + (j - 8) = n + j by omega] at this
            exact this
          · rw [if_neg g3]
            by_cases g4 : j < 16
            · rw [if_pos g4, O44 _ (by omega)]
              have := E38 (j - 12) (by omega)
              rw [show n + 12 + (j - 12) = n + j by omega] at this
              exact this
            · rw [if_neg g4]
              have := E44 (j - 16) (by omega)
              rw [show n + 16 + (j - 16) = n + j by omega] at this
              exact this⟩))
  · refine xcst 19 (-1) ⟨u239, _, rfl⟩ rfl (by decide) (fun z18 h18 => ?_)
    exact xret ⟨u239, _, rfl⟩ rfl (hR _ hp2 hH2 (rU_fr U2 (by decide)) (Or.inr ⟨by omega, by omega, fun k => rU_ne U2 (by omega), by omega⟩))
end
/-! ##### 19.m.021.27b ##### -/
section
/-! ===== the law's helpers ===== -/
theorem bL1_s : bSems amGG P0 84 bTT bL1 := by rw [← bL1_eq]; exact bAll2_s (by decide) P0_fr bB1_ok (fun e he => by cases he)
theorem bL2_s : bSems amGG P0 84 bTT bL2 := by rw [← bL2_eq]; exact bAll2_s (by decide) P0_fr bB2_ok bL1_s
theorem bL3_s : bSems amGG P0 84 bTT bL3 := by rw [← bL3_eq]; exact bAll2_s (by decide) P0_fr bB3_ok bL2_s
theorem bL4_s : bSems amGG P0 84 bTT bL4 := by rw [← bL4_eq]; exact bAll2_s (by decide) P0_fr bB4_ok bL3_s
theorem bM4_s : bSems amGG P0 84 bTT bM4 := fun e he => by
  rcases List.mem_cons.mp (show e ∈ be_s38 :: bL4 from he) with rfl | h
  · exact be_s38_s bL4_s
  · exact bL4_s e h
theorem bL5_s : bSems amGG P0 84 bTT bL5 := by rw [← bL5_eq]; exact bAll2_s (by decide) P0_fr bB5_ok bM4_s
theorem bL6_s : bSems amGG P0 84 bTT bL6 := by rw [← bL6_eq]; exact bAll2_s (by decide) P0_fr bB6_ok bL5_s
theorem bM6_s : bSems amGG P0 84 bTT bM6 := fun e he => by
  rcases List.mem_cons.mp (show e ∈ be_s161 :: bL6 from he) with rfl | h
  · exact be_s161_s bL6_s
  · exact bL6_s e h
theorem bL7_s : bSems amGG P0 84 bTT bL7 := by rw [← bL7_eq]; exact bAll2_s (by decide) P0_fr bB7_ok bM6_s
theorem bL8_s : bSems amGG P0 84 bTT bL8 := by rw [← bL8_eq]; exact bAll2_s (by decide) P0_fr bB8_ok bL7_s
end
/-! ##### 19.m.022.26s ##### -/
section
/-! ===== the class loads a system: what it knows then of the text ===== -/
theorem u115 : bUp 0 am_m115.1 = true := by decide +kernel
theorem u185 : bUp 0 am_m185.1 = true := by decide +kernel
end
/-! ##### 19.m.023.27c ##### -/
section
/-! ===== what the law keeps: the text and its error, the same on both sides ===== -/
/-- may the text's bytes, their number, the error be kept -/
def lawW (W : List (Nat × Nat)) : Bool := W.all (fun p => !(Nat.beq p.1 2) && (!(Nat.beq p.1 80) && (!(Nat.beq p.1 1 && (Nat.ble p.2 2 || Nat.beq p.2 999)) && !(Nat.beq p.1 66 && ((Nat.ble 21 p.2 && Nat.ble p.2 23) || Nat.beq p.2 999)))))
theorem bIn_out {W : List (Nat × Nat)} {c k : Nat} (h : ∀ p ∈ W, ¬ (p.1 = c ∧ (p.2 = k ∨ p.2 = 999))) : bIn W c k = false := by
  induction W with
  | nil => rfl
  | cons p r ih =>
    have h1 := h p List.mem_cons_self
    have ih := ih (fun q hq => h q (List.mem_cons_of_mem _ hq))
    unfold bIn
    split
    · next e =>
      have e := Nat.eq_of_beq_eq_true e
      split
      · next e2 => exact absurd ⟨e, Or.inl (Nat.eq_of_beq_eq_true e2)⟩ h1
      · split
        · next e3 => exact absurd ⟨e, Or.inr (Nat.eq_of_beq_eq_true e3)⟩ h1
        · exact ih
    · exact ih
theorem lawW_s {W : List (Nat × Nat)} (h : lawW W = true) : (∀ k, bIn W 2 k = false) ∧ (∀ k, bIn W 80 k = false) ∧ (∀ k, k ≤ 2 → bIn W 1 k = false) ∧ ∀ k, 21 ≤ k → k ≤ 23 → bIn W 66 k = false := by
  have g : ∀ p ∈ W, ¬ p.1 = 2 ∧ ¬ p.1 = 80 ∧ ¬ (p.1 = 1 ∧ (p.2 ≤ 2 ∨ p.2 = 999)) ∧ ¬ (p.1 = 66 ∧ ((21 ≤ p.2 ∧ p.2 ≤ 23) ∨ p.2 = 999)) := by
    intro p hp
    have := List.all_eq_true.mp h p hp
    simp only [Bool.and_eq_true, Bool.not_eq_true', Bool.and_eq_false_imp, Bool.or_eq_false_iff] at this
    obtain ⟨a, b, c, d⟩ := this
    refine ⟨fun z => ?_, fun z => ?_, fun z => ?_, fun z => ?_⟩
    · rw [z] at a; cases a
    · rw [z] at b; cases b
    · have := c (by rw [z.1]; rfl)
      rcases z.2 with y | y
      · rw [Nat.ble_eq_true_of_le y] at this; exact absurd this.1 (by decide)
      · rw [y] at this; exact absurd this.2 (by decide)
    · have := d (by rw [z.1]; rfl)
      rcases z.2 with y | y
      · have t := this.1 (Nat.ble_eq_true_of_le y.1)
        rw [Nat.ble_eq_true_of_le y.2] at t; cases t
      · rw [y] at this; exact absurd this.2 (by decide)
  exact ⟨fun k => bIn_out (fun p hp z => (g p hp).1 z.1), fun k => bIn_out (fun p hp z => (g p hp).2.1 z.1), fun k hk => bIn_out (fun p hp z => (g p hp).2.2.1 ⟨z.1, by omega⟩), fun k h1 h2 => bIn_out (fun p hp z => (g p hp).2.2.2 ⟨z.1, by omega⟩)⟩
/-- what holds before and after every step of the law -/
def lawI (hp : amH) : Prop := bHk 84 bTT hp ∧ P0 hp ∧ rN hp 1 0 = rN hp 66 21 ∧ cB hp = rB hp ∧ rN hp 1 1 = rN hp 66 22 ∧ rN hp 1 2 = rN hp 66 23
theorem lawI_fr {W : List (Nat × Nat)} {hp hp1 : amH} (h : lawI hp) (hH1 : bHk 84 bTT hp1) (hP1 : P0 hp1) (hF : bFr W hp hp1) (w1 : lawW W = true) (w2 : lawW W = true) : lawI hp1 := by
  obtain ⟨g1, g2, g3, g4⟩ := lawW_s w1
  obtain ⟨-, -, h3, h4, h5, h6⟩ := h
  have e0 : rN hp1 1 0 = rN hp 1 0 := r_fr hF (g3 0 (by decide))
  have e21 : rN hp1 66 21 = rN hp 66 21 := r_fr hF (g4 21 (by decide) (by decide))
  refine ⟨hH1, hP1, by rw [e0, e21]; exact h3, ?_, by rw [show rN hp1 1 1 = rN hp 1 1 from r_fr hF (g3 1 (by decide)), show rN hp1 66 22 = rN hp 66 22 from r_fr hF (g4 22 (by decide) (by decide))]; exact h5, by rw [show rN hp1 1 2 = rN hp 1 2 from r_fr hF (g3 2 (by decide)), show rN hp1 66 23 = rN hp 66 23 from r_fr hF (g4 23 (by decide) (by decide))]; exact h6⟩
  rw [rB_F hF (g4 21 (by decide) (by decide)) g2, ← h4]
  funext k
  unfold cB
  rw [e0, show rN hp1 2 k = rN hp 2 k from r_fr hF (g1 k)]
/-- the same bytes -/
theorem bt_of {hp : amH} (h : cB hp = rB hp) (hn : rN hp 1 0 = rN hp 66 21) (k : Nat) (hk : (k : Int) < rN hp 1 0) : rN hp 2 k % 256 = rN hp 80 k := by
  have := congrFun h k
  unfold cB rB at this
  rw [if_pos hk, if_pos (by omega)] at this
  exact this
theorem bt_to {hp : amH} (hn : rN hp 1 0 = rN hp 66 21) (h : ∀ k : Nat, (k : Int) < rN hp 1 0 → rN hp 2 k % 256 = rN hp 80 k) : cB hp = rB hp := by
  funext k
  unfold cB rB
  by_cases g : (k : Int) < rN hp 1 0
  · rw [if_pos g, if_pos (by omega), h k g]
  · rw [if_neg g, if_neg (by omega)]
theorem lawI_83 {hp hp1 : amH} (h : lawI hp) (hH1 : bHk 84 bTT hp1) (hF : bFr [(83, 999)] hp hp1) : lawI hp1 := lawI_fr h hH1 (P0_W (W := [(83, 999)]) (by decide) hF h.2.1) hF rfl rfl
theorem recv0 {hp : amH} (hH : bHk 84 bTT hp) (r : List Value) : amRecv 0 10 hp (.ref 0 :: r) = true := by
  obtain ⟨c, g1, g2⟩ := bHk_at hH (i := 0) (by decide) rfl
  unfold amRecv
  dsimp only
  rw [if_pos rfl, g1]
  have g2 : c.1 = 10 := g2.1
  exact decide_eq_true ⟨g2, by decide⟩
theorem recv66 {hp : amH} (hH : bHk 84 bTT hp) (r : List Value) : amRecv 0 11 hp (.ref 66 :: r) = true := by
  obtain ⟨vs, h1, -⟩ := x66 hH
  unfold amRecv
  dsimp only
  rw [if_pos rfl, h1]
  rfl
def yI (s : bSp) : Bool := s.2.2.2.2.2.all (fun c => match c.1 with
  | some (.inl _) => true
  | _ => false)
def yT (t : Nat) (s : bSp) : Bool := s.2.2.2.2.2.all (fun c => match c.1 with
  | some (.inr (.inl u)) => Nat.beq u t
  | _ => false)
theorem a0r : bYr 84 (.inr (.inr [0])) (.ref 0) := ⟨0, rfl, by decide, by simp⟩
theorem ai (x : Int32) : bYr 84 (.inl (0, 4294967295)) (.int x) := ⟨x, rfl, Nat.zero_le _, bOff_le x⟩
theorem bT1 {w : Value} (h : bT 1 w) : ∃ x, w = .long x := by
  rcases h with ⟨-, h⟩ | ⟨h, -⟩ | ⟨h, -⟩ | ⟨h, -⟩ | ⟨h, -⟩
  · exact h
  · omega
  · omega
  · omega
  · exact absurd h (by decide)
end
/-! ##### 19.m.024.27d ##### -/
section
/-! ===== the law's five calls of the text, both sides ===== -/
def gAp1 (x1 x2 x3 x4 x5 : Int32) (n : Nat) (hp : amH) (z : Int32) (hp1 : amH) : Prop := bHk 84 bTT hp1 ∧ bFr wTx hp hp1 ∧ ((n ≤ 580 ∧ rN hp1 1 0 = (n : Int) + 20 ∧ z.toInt = (n : Int) + 20 ∧ (∀ k, k < n → rN hp1 2 k = rN hp 2 k) ∧ ∀ j, j < 20 → rN hp1 2 (n + j) % 256 = bytE x1 x2 x3 x4 x5 j) ∨ (580 < n ∧ hp1 = hp ∧ z.toInt = -1))
def gAp2 (x1 x2 x3 x4 x5 : Int32) (n : Nat) (hp : amH) (z : Int32) (hp1 : amH) : Prop := bHk 84 bTT hp1 ∧ bFr ((66, 7) :: wAp) hp hp1 ∧ ((n ≤ 580 ∧ rN hp1 66 21 = (n : Int) + 20 ∧ z.toInt = (n : Int) + 20 ∧ (∀ k, k < n → rN hp1 80 k = rN hp 80 k) ∧ ∀ j, j < 20 → rN hp1 80 (n + j) = bytE x1 x2 x3 x4 x5 j) ∨ (580 < n ∧ rN hp1 66 21 = rN hp 66 21 ∧ (∀ k, rN hp1 80 k = rN hp 80 k) ∧ z.toInt = -1))
theorem law_ap {x1 x2 x3 x4 x5 : Int32} {n : Nat} {hp hp1 hp2 : amH} {z1 z2 : Int32} (hI : lawI hp) (h0 : rN hp 1 0 = (n : Int)) (g1 : gAp1 x1 x2 x3 x4 x5 n hp z1 hp1) (g2 : gAp2 x1 x2 x3 x4 x5 n hp1 z2 hp2) : lawI hp2 ∧ z1.toInt = z2.toInt := by
  obtain ⟨H1, F1, V1⟩ := g1
  obtain ⟨H2, F2, V2⟩ := g2
  obtain ⟨-, hP, h3, h4, h5, h6⟩ := hI
  have a0 : rN hp2 1 0 = rN hp1 1 0 := r_fr F2 rfl
  have a21 : rN hp1 66 21 = rN hp 66 21 := r_fr F1 rfl
  have a2 : ∀ k, rN hp2 2 k = rN hp1 2 k := fun k => r_fr F2 rfl
  have a80 : ∀ k, rN hp1 80 k = rN hp 80 k := fun k => r_fr F1 rfl
  have old := bt_of h4 h3
  have hn : rN hp2 1 0 = rN hp2 66 21 := by
    rcases V1 with ⟨v1, v2, -⟩ | ⟨v1, rfl, -⟩
    · rcases V2 with ⟨w1, w2, -⟩ | ⟨w1, -⟩ <;> omega
    · rcases V2 with ⟨w1, -⟩ | ⟨w1, w2, -⟩ <;> omega
  refine ⟨⟨H2, P0_W (W := (66, 7) :: wAp) (by decide) F2 (P0_W (W := wTx) (by decide) F1 hP), hn, bt_to hn (fun k hk => ?_), ?_, ?_⟩, ?_⟩
  · rcases V1 with ⟨v1, v2, v3, v4, v5⟩ | ⟨v1, rfl, v3⟩
    · rcases V2 with ⟨w1, w2, w3, w4, w5⟩ | ⟨w1, -⟩
      · rcases Nat.lt_or_ge k n with g | g
        · rw [a2, v4 k g, w4 k g, a80]
          exact old k (by omega)
        · have e1 := v5 (k - n) (by omega)
          have e2 := w5 (k - n) (by omega)
          rw [show n + (k - n) = k by omega] at e1 e2
          rw [a2, e1, e2]
      · omega
    · rcases V2 with ⟨w1, -⟩ | ⟨w1, w2, w3, w4⟩
      · omega
      · rw [a2, w3]
        exact old k (by omega)
  · rw [show rN hp2 1 1 = rN hp1 1 1 from r_fr F2 rfl, show rN hp1 1 1 = rN hp 1 1 from r_fr F1 rfl, show rN hp2 66 22 = rN hp1 66 22 from r_fr F2 rfl, show rN hp1 66 22 = rN hp 66 22 from r_fr F1 rfl]
    exact h5
  · rw [show rN hp2 1 2 = rN hp1 1 2 from r_fr F2 rfl, show rN hp1 1 2 = rN hp 1 2 from r_fr F1 rfl, show rN hp2 66 23 = rN hp1 66 23 from r_fr F2 rfl, show rN hp1 66 23 = rN hp 66 23 from r_fr F1 rfl]
    exact h6
  · rcases V1 with ⟨v1, v2, v3, -⟩ | ⟨v1, v2, v3⟩
    · rcases V2 with ⟨w1, w2, w3, -⟩ | ⟨w1, -⟩ <;> omega
    · rcases V2 with ⟨w1, -⟩ | ⟨w1, w2, -, w3⟩ <;> omega
def gTr1 (x : Int32) (hp : amH) (z : Int32) (hp1 : amH) : Prop := bHk 84 bTT hp1 ∧ bFr [(1, 0)] hp hp1 ∧ ((0 ≤ x.toInt ∧ x.toInt ≤ rN hp 1 0 ∧ rN hp1 1 0 = x.toInt ∧ z.toInt = 1) ∨ ((x.toInt < 0 ∨ rN hp 1 0 < x.toInt) ∧ rN hp1 1 0 = rN hp 1 0 ∧ z.toInt = 0))
def gTr2 (x : Int32) (hp : amH) (z : Int32) (hp1 : amH) : Prop := bHk 84 bTT hp1 ∧ bFr [(66, 7), (66, 21)] hp hp1 ∧ ((0 ≤ x.toInt ∧ x.toInt ≤ rN hp 66 21 ∧ rN hp1 66 21 = x.toInt ∧ z.toInt = 1) ∨ ((x.toInt < 0 ∨ rN hp 66 21 < x.toInt) ∧ rN hp1 66 21 = rN hp 66 21 ∧ z.toInt = 0))
theorem law_tr {x : Int32} {hp hp1 hp2 : amH} {z1 z2 : Int32} (hI : lawI hp) (g1 : gTr1 x hp z1 hp1) (g2 : gTr2 x hp1 z2 hp2) : lawI hp2 ∧ z1.toInt = z2.toInt := by
  obtain ⟨H1, F1, V1⟩ := g1
  obtain ⟨H2, F2, V2⟩ := g2
  obtain ⟨-, hP, h3, h4, h5, h6⟩ := hI
  have a0 : rN hp2 1 0 = rN hp1 1 0 := r_fr F2 rfl
  have a21 : rN hp1 66 21 = rN hp 66 21 := r_fr F1 rfl
  have old := bt_of h4 h3
  have hn : rN hp2 1 0 = rN hp2 66 21 := by omega
  refine ⟨⟨H2, P0_W (W := [(66, 7), (66, 21)]) (by decide) F2 (P0_W (W := [(1, 0)]) (by decide) F1 hP), hn, bt_to hn (fun k hk => ?_), ?_, ?_⟩, by omega⟩
  · rw [show rN hp2 2 k = rN hp1 2 k from r_fr F2 rfl, show rN hp1 2 k = rN hp 2 k from r_fr F1 rfl, show rN hp2 80 k = rN hp1 80 k from r_fr F2 rfl, show rN hp1 80 k = rN hp 80 k from r_fr F1 rfl]
    exact old k (by omega)
  · rw [show rN hp2 1 1 = rN hp1 1 1 from r_fr F2 rfl, show rN hp1 1 1 = rN hp 1 1 from r_fr F1 rfl, show rN hp2 66 22 = rN hp1 66 22 from r_fr F2 rfl, show rN hp1 66 22 = rN hp 66 22 from r_fr F1 rfl]
    exact h5
  · rw [show rN hp2 1 2 = rN hp1 1 2 from r_fr F2 rfl, show rN hp1 1 2 = rN hp 1 2 from r_fr F1 rfl, show rN hp2 66 23 = rN hp1 66 23 from r_fr F2 rfl, show rN hp1 66 23 = rN hp 66 23 from r_fr F1 rfl]
    exact h6
end
/-! ##### 19.m.025.28a ##### -/
section
/-! ===== triples in their order (pure) ===== -/
/-- the pair n = 15 x + y begins a triple -/
def trB (T : sT) (n : Nat) : Bool := decide (n / 15 < n % 15 ∧ ((n % 15 : Nat) : Int) < T (n / 15) (n % 15))
/-- the triples of which the first pair stands before n -/
def trL (T : sT) : Nat → List Nat
  | 0 => []
  | n + 1 => if trB T n = true then trL T n ++ [n] else trL T n
theorem trL_mem {T : sT} {k : Nat} : ∀ n, k ∈ trL T n ↔ (k < n ∧ trB T k = true)
  | 0 => by simp [trL]
  | n + 1 => by
    have ih := trL_mem (T := T) (k := k) n
    unfold trL
    split
    · next h =>
      rw [List.mem_append, ih, List.mem_singleton]
      constructor
      · rintro (g | rfl)
        · exact ⟨by omega, g.2⟩
        · exact ⟨by omega, h⟩
      · intro g
        by_cases e : k = n
        · exact Or.inr e
        · exact Or.inl ⟨by omega, g.2⟩
    · next h =>
      rw [ih]
      constructor
      · exact fun g => ⟨by omega, g.2⟩
      · intro g
        have : ¬ k = n := fun e => h (by rw [← e]; exact g.2)
        exact ⟨by omega, g.2⟩
theorem trL_no {T : sT} {n n1 : Nat} (h : n ≤ n1) (hn : ∀ k, n ≤ k → k < n1 → trB T k = false) : trL T n1 = trL T n := by
  induction n1 with
  | zero => rw [show n = 0 by omega]
  | succ m ih =>
    by_cases e : n = m + 1
    · rw [e]
    · rw [show trL T (m + 1) = trL T m by show (if trB T m = true then trL T m ++ [m] else trL T m) = trL T m; rw [if_neg (by rw [hn m (by omega) (by omega)]; decide)]]
      exact ih (by omega) (fun k k1 k2 => hn k k1 (by omega))
theorem trL_add {T : sT} {n : Nat} (h : trB T n = true) : trL T (n + 1) = trL T n ++ [n] := by
  rw [show trL T (n + 1) = if trB T n = true then trL T n ++ [n] else trL T n from rfl, if_pos h]
/-- a triple's points, by its first pair -/
theorem tr_pts {V : Nat} {T : sT} (hT : sOk V T) {n : Nat} (h : trB T n = true) : ∃ z : Nat, T (n / 15) (n % 15) = (z : Int) ∧ n / 15 < n % 15 ∧ n % 15 < z ∧ z < V := by
  have h := of_decide_eq_true h
  obtain ⟨z, hz, g⟩ := sOk_at hT (rfl : T (n / 15) (n % 15) = _) (by omega)
  exact ⟨z, hz, h.1, by omega, by omega⟩
def rTT (V : Nat) (T : sT) : Nat → Int := fun i => if i < 4 then (V : Int) else T ((i - 4) / 15) ((i - 4) % 15)
theorem rTT_at {V : Nat} {T : sT} {a b : Nat} (hb : b < 15) : rTT V T (4 + 15 * a + b) = T a b := by
  unfold rTT
  rw [if_neg (by omega), show (4 + 15 * a + b - 4) / 15 = a by omega, show (4 + 15 * a + b - 4) % 15 = b by omega]
theorem rTT_V {V : Nat} {T : sT} (h : sOk V T) : Vf (rTT V T) := by
  have h0 : rTT V T 0 = (V : Int) := rfl
  refine ⟨by have := h.1; omega, by have := h.2.1; omega, fun a b ha hb => ?_⟩
  rw [rTT_at hb]
  rcases h.2.2 a b with g | ⟨c, g1, g2, g3, g4, g5, g6, g7, g8, g9⟩
  · exact Or.inl g
  · have := h.2.1
    exact Or.inr ⟨c, g1, by omega, by omega, by omega, g5, g6, g7, by rw [rTT_at (by omega)]; exact g8, by rw [rTT_at (by omega)]; exact g9⟩
theorem trL_gL {V : Nat} {T : sT} (hT : sOk V T) : ∀ n, ∃ L, gL (rTT V T) n L ∧ L.length = 3 * (trL T n).length
  | 0 => ⟨[], gL_nil _ _, rfl⟩
  | n + 1 => by
    obtain ⟨L, g, hl⟩ := trL_gL hT n
    unfold trL
    split
    · next h =>
      obtain ⟨z, z1, z2, z3, z4⟩ := tr_pts hT h
      have hV := hT.2.1
      have e : 15 * (n / 15) + n % 15 = n := by omega
      have := gL_add (rTT_V hT) g (a := n / 15) (b := n % 15) (c := z) z2 z3 (by omega) (by rw [rTT_at (by omega)]; exact z1) (by omega)
      rw [e] at this
      exact ⟨_, this, by rw [List.length_append, List.length_cons, List.length_cons, List.length_cons, hl, List.length_singleton]; omega⟩
    · exact ⟨L, gL_mono g (by omega), hl⟩
theorem trL_35 {V : Nat} {T : sT} (hT : sOk V T) (n : Nat) : (trL T n).length ≤ 35 := by
  obtain ⟨L, g, hl⟩ := trL_gL hT n
  have := gL_len g
  omega
/-- the set of a triple's points, by its first pair -/
def mk3 (T : sT) (n : Nat) : Nat := m3 (n / 15) (n % 15) (T (n / 15) (n % 15)).toNat
/-- the triples listed up to the pair n: how many, their sets, their pairs' numbers -/
def lsN (hp : amH) (o : Nat) (T : sT) (n : Nat) : Prop := rN hp o 1 = (((trL T n).length : Nat) : Int) ∧ (∀ t, t < (trL T n).length → rN hp (o + 4) t = ((mk3 T ((trL T n).getD t 0) : Nat) : Int)) ∧
  ∀ t u v, t < (trL T n).length → u < 15 → v < 15 → sPr ((trL T n).getD t 0 / 15) ((trL T n).getD t 0 % 15) (T ((trL T n).getD t 0 / 15) ((trL T n).getD t 0 % 15)).toNat u v → rN hp (o + 2) (15 * u + v) = (t : Int)
theorem lsN_fr {hp hp1 : amH} {o n : Nat} {T : sT} (h : lsN hp o T n) (h1 : rN hp1 o 1 = rN hp o 1) (h4 : ∀ i, rN hp1 (o + 4) i = rN hp (o + 4) i) (h2 : ∀ i, rN hp1 (o + 2) i = rN hp (o + 2) i) : lsN hp1 o T n :=
  ⟨by rw [h1]; exact h.1, fun t ht => by rw [h4]; exact h.2.1 t ht, fun t u v ht hu hv hp => by rw [h2]; exact h.2.2 t u v ht hu hv hp⟩
/-- a pair stands in one triple -/
theorem sPr_T {V : Nat} {T : sT} (hT : sOk V T) {x y z u v : Nat} (e : T x y = (z : Int)) (h : sPr x y z u v) : T u v = (x : Int) + y + z - u - v := by
  obtain ⟨k, hk, x1, y1, z1, n1, n2, n3, t1, t2, t3, t4, t5⟩ := sOk_at hT e (by omega)
  have hk : z = k := by omega
  subst hk
  obtain ⟨g1, g2, g3⟩ := h
  rcases g2 with rfl | rfl | rfl <;> rcases g3 with rfl | rfl | rfl <;> first | exact absurd rfl g1 | omega
theorem pr_one {V : Nat} {T : sT} (hT : sOk V T) {x y z a b c u v : Nat} (h1 : x < y) (h2 : y < z) (h3 : a < b) (h4 : b < c) (e : T x y = (z : Int)) (e2 : T a b = (c : Int)) (p : sPr x y z u v) (q : sPr a b c u v) : x = a ∧ y = b ∧ z = c := by
  have g1 := sPr_T hT e p
  have g2 := sPr_T hT e2 q
  obtain ⟨p1, p2, p3⟩ := p
  obtain ⟨q1, q2, q3⟩ := q
  omega
/-! ===== the class lists its triples ===== -/
theorem k_np {d : Nat} {hp : amH} {R : xQ} {o V x y : Nat} {a b : Int32} (ho : bo o) (hH : bHk 84 bTT hp) (hV : rN hp o 0 = (V : Int)) (ha : a.toInt = (x : Int)) (hb : b.toInt = (y : Int)) (hx : x < V) (hy : y < V)
    (hR : ∀ hp1, bHk 84 bTT hp1 → bFx [o + 2] hp hp1 → (∀ u v, u < 15 → v < 15 → rN hp1 (o + 2) (15 * u + v) = if (u = x ∧ v = y) ∨ (u = y ∧ v = x) then rN hp o 1 else rN hp (o + 2) (15 * u + v)) → R (.inl none) hp1) : xK (d + 1) 20 [.ref o, .int a, .int b] hp R := by
  have q := b_pts hH ho
  refine xin (M := am_m20) rfl rfl (by unfold xAv; simp [amOk, bo_lt ho, Value.category]) ?_
  refine xald 1 ⟨u20, _, rfl⟩ rfl rfl ?_
  refine xild 2 ⟨u20, _, rfl⟩ rfl rfl ?_
  refine xcallC 5 (o := o) [.int _] [] hH ⟨u20, _, rfl⟩ rfl rfl (bo_lt ho) (bo_T ho) (by decide) rfl ⟨rfl, rfl, rfl, rfl⟩ rfl (k_isp ho hH (fun z2 h2 => ⟨_, rfl, ?_⟩))
  refine xif_eq 8 ⟨u20, _, rfl⟩ rfl (fun c5 => ?_) (fun c5 => ?_)
  · omega
  · refine xald 9 ⟨u20, _, rfl⟩ rfl rfl ?_
    refine xild 10 ⟨u20, _, rfl⟩ rfl rfl ?_
    refine xcallC 13 (o := o) [.int _] [] hH ⟨u20, _, rfl⟩ rfl rfl (bo_lt ho) (bo_T ho) (by decide) rfl ⟨rfl, rfl, rfl, rfl⟩ rfl (k_isp ho hH (fun z10 h10 => ⟨_, rfl, ?_⟩))
    refine xif_eq 16 ⟨u20, _, rfl⟩ rfl (fun c13 => ?_) (fun c13 => ?_)
    · omega
    · refine xald 17 ⟨u20, _, rfl⟩ rfl rfl ?_
      refine xgetD 20 (o + 2) hH ⟨u20, _, rfl⟩ rfl (bo_lt ho) (by decide) (bo_T ho) rfl (by decide) ?_
      refine xild 21 ⟨u20, _, rfl⟩ rfl rfl ?_
      refine xbip 23 (15) ⟨u20, _, rfl⟩ rfl (by decide) (fun z21 h21 => ?_)
      refine xmul 24 (Int32.toInt a * 15) ⟨u20, _, rfl⟩ rfl (by rw [h21]) (by omega) (by omega) (fun z23 h23 => ?_)
      refine xild 25 ⟨u20, _, rfl⟩ rfl rfl ?_
      refine xadd 26 _ ⟨u20, _, rfl⟩ rfl rfl (by omega) (by omega) (fun z25 h25 => ?_)
      refine xald 27 ⟨u20, _, rfl⟩ rfl rfl ?_
      refine xgetC 30 hH ⟨u20, _, rfl⟩ rfl (bo_lt ho) (by decide) (bo_T ho) rfl (by decide) (fun z27 h27 => ?_)
      have bm := aMin z27
      have bx := aMax z27
      refine xiast 31 (z25).toInt.toNat hH ⟨u20, _, rfl⟩ rfl (bo_lt2 ho) (bo_T2 ho) (by omega) (by omega) (by omega) (by omega) (fun hp30 hH30 U30 => ?_)
      have s30 := U30.1
      have n30_o_0 : rN hp30 (o) 0 = rN hp (o) 0 := rU_ne U30 (by omega)
      have n30_o_1 : rN hp30 (o) 1 = rN hp (o) 1 := rU_ne U30 (by omega)
      refine xald 32 ⟨u20, _, rfl⟩ rfl rfl ?_
      refine xgetD 35 (o + 2) hH30 ⟨u20, _, rfl⟩ rfl (bo_lt ho) (by decide) (bo_T ho) rfl (by decide) ?_
      refine xild 36 ⟨u20, _, rfl⟩ rfl rfl ?_
      refine xbip 38 (15) ⟨u20, _, rfl⟩ rfl (by decide) (fun z36 h36 => ?_)
      refine xmul 39 (Int32.toInt b * 15) ⟨u20, _, rfl⟩ rfl (by rw [h36]) (by omega) (by omega) (fun z38 h38 => ?_)
      refine xild 40 ⟨u20, _, rfl⟩ rfl rfl ?_
      refine xadd 41 _ ⟨u20, _, rfl⟩ rfl rfl (by omega) (by omega) (fun z40 h40 => ?_)
      refine xald 42 ⟨u20, _, rfl⟩ rfl rfl ?_
      refine xgetC 45 hH30 ⟨u20, _, rfl⟩ rfl (bo_lt ho) (by decide) (bo_T ho) rfl (by decide) (fun z42 h42 => ?_)
      have bm2 := aMin z42
      have bx2 := aMax z42
      refine xiast 46 (z40).toInt.toNat hH30 ⟨u20, _, rfl⟩ rfl (bo_lt2 ho) (bo_T2 ho) (by omega) (by omega) (by omega) (by omega) (fun hp45 hH45 U45 => ?_)
      have s45 := U45.1
      have n45_o_0 : rN hp45 (o) 0 = rN hp30 (o) 0 := rU_ne U45 (by omega)
      have n45_o_1 : rN hp45 (o) 1 = rN hp30 (o) 1 := rU_ne U45 (by omega)
      exact xretV ⟨u20, _, rfl⟩ rfl (hR hp45 hH45 ((bFx_U U30 (by simp)).trans (bFx_U U45 (by simp))) (fun u v hu hv => by
          by_cases e2 : u = y ∧ v = x
          · obtain ⟨rfl, rfl⟩ := e2
            rw [if_pos (by omega), show 15 * u + v = z40.toInt.toNat by omega, U45.1, h42]
            exact rU_ne U30 (by omega)
          · rw [rU_ne U45 (by omega)]
            by_cases e1 : u = x ∧ v = y
            · obtain ⟨rfl, rfl⟩ := e1
              rw [if_pos (by omega), show 15 * u + v = z25.toInt.toNat by omega, U30.1]
              exact h27
            · rw [if_neg (by omega), rU_ne U30 (by omega)]))
theorem k_nmb {d : Nat} {hp : amH} {R : xQ} {o V x y z n : Nat} {T : sT} {a b c : Int32} (ho : bo o) (hH : bHk 84 bTT hp) (hB : bdOk hp o V T) (hn : n = 15 * x + y) (hL : lsN hp o T n) (ha : a.toInt = (x : Int)) (hb : b.toInt = (y : Int)) (hc : c.toInt = (z : Int)) (hxy : x < y) (hyz : y < z) (hz : z < V) (e : T x y = (z : Int))
    (hR : ∀ hp1, bHk 84 bTT hp1 → bFx [o, o + 2, o + 4] hp hp1 → rN hp1 o 0 = rN hp o 0 → lsN hp1 o T (n + 1) → R (.inl none) hp1) : xK (d + 2) 19 [.ref o, .int a, .int b, .int c] hp R := by
  have q := b_pts hH ho
  have hV := hB.2.1.2.1
  have bV := hB.1
  have tb : trB T n = true := decide_eq_true (by rw [show n / 15 = x by omega, show n % 15 = y by omega]; omega)
  have eL := trL_add tb
  have l35 := trL_35 hB.2.1 (n + 1)
  rw [eL, List.length_append, List.length_singleton] at l35
  obtain ⟨L1, L2, L3⟩ := id hL
  have hm := m3_lt (x := x) (y := y) (z := z) (by omega) (by omega) (by omega)
  refine xin (M := am_m19) rfl rfl (by unfold xAv; simp [amOk, bo_lt ho, Value.category]) ?_
  refine xald 1 ⟨u19, _, rfl⟩ rfl rfl ?_
  refine xgetC 4 hH ⟨u19, _, rfl⟩ rfl (bo_lt ho) (by decide) (bo_T ho) rfl (by decide) (fun z1 h1 => ?_)
  refine xald 5 ⟨u19, _, rfl⟩ rfl rfl ?_
  refine xgetD 8 (o + 4) hH ⟨u19, _, rfl⟩ rfl (bo_lt ho) (by decide) (bo_T ho) rfl (by decide) ?_
  refine xlen 9 hH ⟨u19, _, rfl⟩ rfl (bo_lt4 ho) (bo_T4 ho) (by decide) (by decide) (fun z8 h8 => ?_)
  refine xcmp_ge 12 ⟨u19, _, rfl⟩ rfl (fun c9 => ?_) (fun c9 => ?_)
  · omega
  · refine xald 13 ⟨u19, _, rfl⟩ rfl rfl ?_
    refine xgetD 16 (o + 4) hH ⟨u19, _, rfl⟩ rfl (bo_lt ho) (by decide) (bo_T ho) rfl (by decide) ?_
    refine xald 17 ⟨u19, _, rfl⟩ rfl rfl ?_
    refine xgetC 20 hH ⟨u19, _, rfl⟩ rfl (bo_lt ho) (by decide) (bo_T ho) rfl (by decide) (fun z17 h17 => ?_)
    refine xild 21 ⟨u19, _, rfl⟩ rfl rfl ?_
    refine xild 22 ⟨u19, _, rfl⟩ rfl rfl ?_
    refine xild 23 ⟨u19, _, rfl⟩ rfl rfl ?_
    refine xcallS 26 [.int _, .int _, .int _] [.int _, .ref (o + 4)] hH ⟨u19, _, rfl⟩ rfl rfl rfl (by simp [amOkS, amOk, bo_lt ho, bo_lt1 ho, bo_lt2 ho, bo_lt3 ho, bo_lt4 ho]) rfl (k_three (x := x) (y := y) (z := z) (by omega) (by omega) (by omega) (by omega) (by omega) (by omega) (fun z23 h23 => ⟨_, rfl, ?_⟩))
    have m23 : z23.toInt = ((m3 x y z : Nat) : Int) := h23
    refine xiast 27 (z17).toInt.toNat hH ⟨u19, _, rfl⟩ rfl (bo_lt4 ho) (bo_T4 ho) (by omega) (by omega) (by omega) (by omega) (fun hp26 hH26 U26 => ?_)
    have s26 := U26.1
    refine xald 28 ⟨u19, _, rfl⟩ rfl rfl ?_
    refine xild 29 ⟨u19, _, rfl⟩ rfl rfl ?_
    refine xild 30 ⟨u19, _, rfl⟩ rfl rfl ?_
    refine xcallC 33 (o := o) [.int _, .int _] [] hH26 ⟨u19, _, rfl⟩ rfl rfl (bo_lt ho) (bo_T ho) (by decide) rfl ⟨rfl, rfl, rfl, rfl⟩ rfl (k_np ho hH26 (V := V) (by rw [rU_ne U26 (by omega)]; exact bV) (x := x) (y := y) (by omega) (by omega) (by omega) (by omega) (fun hp30 hH30 F30 E30 => ⟨_, rfl, ?_⟩))
    refine xald 34 ⟨u19, _, rfl⟩ rfl rfl ?_
    refine xild 35 ⟨u19, _, rfl⟩ rfl rfl ?_
    refine xild 36 ⟨u19, _, rfl⟩ rfl rfl ?_
    refine xcallC 39 (o := o) [.int _, .int _] [] hH30 ⟨u19, _, rfl⟩ rfl rfl (bo_lt ho) (bo_T ho) (by decide) rfl ⟨rfl, rfl, rfl, rfl⟩ rfl (k_np ho hH30 (V := V) (by rw [bFx_n F30 (by simp), rU_ne U26 (by omega)]; exact bV) (x := x) (y := z) (by omega) (by omega) (by omega) (by omega) (fun hp36 hH36 F36 E36 => ⟨_, rfl, ?_⟩))
    refine xald 40 ⟨u19, _, rfl⟩ rfl rfl ?_
    refine xild 41 ⟨u19, _, rfl⟩ rfl rfl ?_
    refine xild 42 ⟨u19, _, rfl⟩ rfl rfl ?_
    refine xcallC 45 (o := o) [.int _, .int _] [] hH36 ⟨u19, _, rfl⟩ rfl rfl (bo_lt ho) (bo_T ho) (by decide) rfl ⟨rfl, rfl, rfl, rfl⟩ rfl (k_np ho hH36 (V := V) (by rw [bFx_n F36 (by simp), bFx_n F30 (by simp), rU_ne U26 (by omega)]; exact bV) (x := y) (y := z) (by omega) (by omega) (by omega) (by omega) (fun hp42 hH42 F42 E42 => ⟨_, rfl, ?_⟩))
    have s42 : rN hp42 o 1 = rN hp o 1 := by rw [bFx_n F42 (by simp), bFx_n F36 (by simp), bFx_n F30 (by simp), rU_ne U26 (by omega)]
    have z42 : rN hp42 o 0 = rN hp o 0 := by rw [bFx_n F42 (by simp), bFx_n F36 (by simp), bFx_n F30 (by simp), rU_ne U26 (by omega)]
    refine xald 46 ⟨u19, _, rfl⟩ rfl rfl ?_
    refine xdup 47 ⟨u19, _, rfl⟩ rfl rfl ?_
    refine xgetC 50 hH42 ⟨u19, _, rfl⟩ rfl (bo_lt ho) (by decide) (bo_T ho) rfl (by decide) (fun z47 h47 => ?_)
    refine xcst 51 (1) ⟨u19, _, rfl⟩ rfl (by decide) (fun z50 h50 => ?_)
    refine xadd 52 _ ⟨u19, _, rfl⟩ rfl rfl (by omega) (by omega) (fun z51 h51 => ?_)
    refine xputC 55 hH42 ⟨u19, _, rfl⟩ rfl (bo_lt ho) (by decide) (bo_T ho) rfl (by decide) ⟨rfl, rfl⟩ (by omega) (by omega) (fun hp52 hH52 U52 => ?_)
    have s52 := U52.1
    have s1 := U52.1
    have one : ∀ u v, u < 15 → v < 15 → rN hp52 (o + 2) (15 * u + v) = if sPr x y z u v then (((trL T n).length : Nat) : Int) else rN hp (o + 2) (15 * u + v) := fun u v hu hv => by
      rw [rU_ne U52 (by omega), E42 u v hu hv, E36 u v hu hv, E30 u v hu hv, bFx_n F36 (by simp), bFx_n F30 (by simp), rU_ne U26 (by omega), rU_ne U26 (by omega), L1]
      by_cases g1 : (u = y ∧ v = z) ∨ (u = z ∧ v = y)
      · rw [if_pos g1, if_pos (by omega)]
      · rw [if_neg g1]
        by_cases g2 : (u = x ∧ v = z) ∨ (u = z ∧ v = x)
        · rw [if_pos g2, if_pos (by omega)]
        · rw [if_neg g2]
          by_cases g3 : (u = x ∧ v = y) ∨ (u = y ∧ v = x)
          · rw [if_pos g3, if_pos (by omega)]
          · rw [if_neg g3, if_neg (by omega)]
    have gl : ∀ t, t < (trL T n).length → (trL T n ++ [n]).getD t 0 = (trL T n).getD t 0 := fun t ht => by
      rw [List.getD_eq_getElem?_getD, List.getD_eq_getElem?_getD, List.getElem?_append_left ht]
    have gn : (trL T n ++ [n]).getD (trL T n).length 0 = n := by
      rw [List.getD_eq_getElem?_getD, List.getElem?_append_right (Nat.le_refl _), Nat.sub_self]; rfl
    refine xretV ⟨u19, _, rfl⟩ rfl (hR hp52 hH52 (((((bFx_U U26 (by simp)).trans (F30.mono (by simp))).trans (F36.mono (by simp))).trans (F42.mono (by simp))).trans (bFx_U U52 (by simp))) (by rw [rU_ne U52 (by omega)]; exact z42) ⟨?_, ?_, ?_⟩)
    · rw [eL, List.length_append, List.length_singleton, s1]
      omega
    · intro t ht
      rw [eL, List.length_append, List.length_singleton] at ht
      rw [eL, rU_ne U52 (by omega), bFx_n F42 (by simp), bFx_n F36 (by simp), bFx_n F30 (by simp)]
      by_cases g : t = (trL T n).length
      · rw [g, gn, show (trL T n).length = z17.toInt.toNat by omega, U26.1, h23]
        unfold mk3
        rw [show n / 15 = x by omega, show n % 15 = y by omega, e, Int.toNat_natCast]
      · rw [gl t (by omega), rU_ne U26 (by omega)]
        exact L2 t (by omega)
    · intro t u v ht hu hv hp
      rw [eL, List.length_append, List.length_singleton] at ht
      rw [eL] at hp
      rw [one u v hu hv]
      by_cases g : t = (trL T n).length
      · rw [g, gn, show n / 15 = x by omega, show n % 15 = y by omega, e, Int.toNat_natCast] at hp
        rw [if_pos hp, g]
      · rw [gl t (by omega)] at hp
        have hmem : (trL T n).getD t 0 ∈ trL T n := by
          rw [List.getD_eq_getElem?_getD, List.getElem?_eq_getElem (by omega)]
          exact List.getElem_mem _
        obtain ⟨k1, k2⟩ := (trL_mem n).mp hmem
        obtain ⟨c9, c1, c2, c3, c4⟩ := tr_pts hB.2.1 k2
        rw [c1, Int.toNat_natCast] at hp
        have hno : ¬ sPr x y z u v := fun hq => by
          have := pr_one hB.2.1 hxy hyz c2 c3 e c1 hq hp
          omega
        rw [if_neg hno]
        exact L3 t u v (by omega) hu hv (by rw [c1, Int.toNat_natCast]; exact hp)
end
/-! ##### 19.m.026.28b ##### -/
section
/-! ===== the class lists its triples: all ===== -/
theorem l18i {d : Nat} {hp0 : amH} {R : xQ} {o V x : Nat} {T : sT} {a : Int32} (ho : bo o) (ha : a.toInt = (x : Int)) (hx : x < V)
    (hQ : ∀ hp (y : Int32) (w : Option Value), bHk 84 bTT hp → bFx [o, o + 2, o + 4] hp0 hp → bdOk hp o V T → lsN hp o T (15 * (x + 1)) → xV (d + 3) am_m18 52 [some (.ref o), some (.int a), some (.int y), w] [] hp R) :
    ∀ (jj y : Nat) (b : Int32) (hp : amH) (w : Option Value), bHk 84 bTT hp → bFx [o, o + 2, o + 4] hp0 hp → bdOk hp o V T → lsN hp o T (15 * x + y) → b.toInt = (y : Int) → x < y → y + jj = V → xV (d + 3) am_m18 19 [some (.ref o), some (.int a), some (.int b), w] [] hp R := by
  intro jj
  induction jj with
  | zero =>
    intro y b hp w hH hF hB hL hb hxy hj
    have hV := hB.2.1.2.1
    have bV := hB.1
    refine xild 20 ⟨u18, _, rfl⟩ rfl rfl ?_
    refine xald 21 ⟨u18, _, rfl⟩ rfl rfl ?_
    refine xgetC 24 hH ⟨u18, _, rfl⟩ rfl (bo_lt ho) (by decide) (bo_T ho) rfl (by decide) (fun z21 h21 => ?_)
    refine xcmp_ge 27 ⟨u18, _, rfl⟩ rfl (fun c24 => ?_) (fun c24 => ?_)
    · have e : trL T (15 * (x + 1)) = trL T (15 * x + y) := trL_no (by omega) (fun k k1 k2 => decide_eq_false (fun z => by
        rw [show k / 15 = x by omega] at z
        rcases hB.2.1.2.2 x (k % 15) with g | ⟨c, g1, g2, g3, -⟩ <;> omega))
      refine hQ hp b w hH hF hB ?_
      unfold lsN
      rw [e]
      exact hL
    · omega
  | succ jj ih =>
    intro y b hp w hH hF hB hL hb hxy hj
    have hV := hB.2.1.2.1
    have bV := hB.1
    refine xild 20 ⟨u18, _, rfl⟩ rfl rfl ?_
    refine xald 21 ⟨u18, _, rfl⟩ rfl rfl ?_
    refine xgetC 24 hH ⟨u18, _, rfl⟩ rfl (bo_lt ho) (by decide) (bo_T ho) rfl (by decide) (fun z21 h21 => ?_)
    refine xcmp_ge 27 ⟨u18, _, rfl⟩ rfl (fun c24 => ?_) (fun c24 => ?_)
    · omega
    · refine xald 28 ⟨u18, _, rfl⟩ rfl rfl ?_
      refine xild 29 ⟨u18, _, rfl⟩ rfl rfl ?_
      refine xild 30 ⟨u18, _, rfl⟩ rfl rfl ?_
      refine xcallC 33 (o := o) [.int _, .int _] [] hH ⟨u18, _, rfl⟩ rfl rfl (bo_lt ho) (bo_T ho) (by decide) rfl ⟨rfl, rfl, rfl, rfl⟩ rfl (k_thd ho hH hB (fun z30 h30 => ⟨_, rfl, ?_⟩))
      rw [if_pos (by omega), show a.toInt.toNat = x by omega, show b.toInt.toNat = y by omega] at h30
      refine xist 34 ⟨u18, _, rfl⟩ rfl rfl ?_
      refine xild 35 ⟨u18, _, rfl⟩ rfl rfl ?_
      refine xild 36 ⟨u18, _, rfl⟩ rfl rfl ?_
      refine xcmp_le 39 ⟨u18, _, rfl⟩ rfl (fun c36 => ?_) (fun c36 => ?_)
      · refine xinc 49 (1) ⟨u18, _, rfl⟩ rfl rfl rfl (by decide) (by omega) (by omega) (fun z46 h46 => ?_)
        refine xgoto ⟨u18, _, rfl⟩ ?_
        have e : trL T (15 * x + (y + 1)) = trL T (15 * x + y) := trL_no (by omega) (fun k k1 k2 => decide_eq_false (fun z => by
          rw [show k / 15 = x by omega, show k % 15 = y by omega] at z
          omega))
        exact ih (y + 1) _ hp _ hH hF hB (by unfold lsN; rw [e]; exact hL) (by omega) (by omega) (by omega)
      · obtain ⟨c, ec, c1, c2, c3, -⟩ := sOk_at hB.2.1 (rfl : T x y = _) (by omega)
        refine xald 40 ⟨u18, _, rfl⟩ rfl rfl ?_
        refine xild 41 ⟨u18, _, rfl⟩ rfl rfl ?_
        refine xild 42 ⟨u18, _, rfl⟩ rfl rfl ?_
        refine xild 43 ⟨u18, _, rfl⟩ rfl rfl ?_
        refine xcallC 46 (o := o) [.int _, .int _, .int _] [] hH ⟨u18, _, rfl⟩ rfl rfl (bo_lt ho) (bo_T ho) (by decide) rfl ⟨rfl, rfl, rfl, rfl⟩ rfl (k_nmb (z := c) ho hH hB rfl hL ha hb (by omega) hxy (by omega) (by omega) ec (fun hp43 hH43 F43 A43 L43 => ⟨_, rfl, ?_⟩))
        refine xinc 49 (1) ⟨u18, _, rfl⟩ rfl rfl rfl (by decide) (by omega) (by omega) (fun z46 h46 => ?_)
        refine xgoto ⟨u18, _, rfl⟩ ?_
        exact ih (y + 1) _ hp43 _ hH43 (hF.trans F43) (bdOk_fr hB A43 (fun i => bFx_n F43 (by simp)) (fun i => bFx_n F43 (by simp))) L43 (by omega) (by omega) (by omega)
theorem l18o {d : Nat} {hp0 : amH} {R : xQ} {o V : Nat} {T : sT} (ho : bo o) (hR : ∀ hp1, bHk 84 bTT hp1 → bFx [o, o + 2, o + 4] hp0 hp1 → bdOk hp1 o V T → lsN hp1 o T 225 → R (.inl none) hp1) :
    ∀ (jj x : Nat) (a : Int32) (hp : amH) (v w : Option Value), bHk 84 bTT hp → bFx [o, o + 2, o + 4] hp0 hp → bdOk hp o V T → lsN hp o T (15 * x) → a.toInt = (x : Int) → x + jj = V → xV (d + 3) am_m18 7 [some (.ref o), some (.int a), v, w] [] hp R := by
  intro jj
  induction jj with
  | zero =>
    intro x a hp v w hH hF hB hL ha hj
    have hV := hB.2.1.2.1
    have bV := hB.1
    refine xild 8 ⟨u18, _, rfl⟩ rfl rfl ?_
    refine xald 9 ⟨u18, _, rfl⟩ rfl rfl ?_
    refine xgetC 12 hH ⟨u18, _, rfl⟩ rfl (bo_lt ho) (by decide) (bo_T ho) rfl (by decide) (fun z9 h9 => ?_)
    refine xcmp_ge 15 ⟨u18, _, rfl⟩ rfl (fun c12 => ?_) (fun c12 => ?_)
    · have e : trL T 225 = trL T (15 * x) := trL_no (by omega) (fun k k1 k2 => decide_eq_false (fun z => by
        rcases hB.2.1.2.2 (k / 15) (k % 15) with g | ⟨c, g1, g2, g3, -⟩ <;> omega))
      exact xretV ⟨u18, _, rfl⟩ rfl (hR hp hH hF hB (by unfold lsN; rw [e]; exact hL))
    · omega
  | succ jj ih =>
    intro x a hp v w hH hF hB hL ha hj
    have hV := hB.2.1.2.1
    have bV := hB.1
    refine xild 8 ⟨u18, _, rfl⟩ rfl rfl ?_
    refine xald 9 ⟨u18, _, rfl⟩ rfl rfl ?_
    refine xgetC 12 hH ⟨u18, _, rfl⟩ rfl (bo_lt ho) (by decide) (bo_T ho) rfl (by decide) (fun z9 h9 => ?_)
    refine xcmp_ge 15 ⟨u18, _, rfl⟩ rfl (fun c12 => ?_) (fun c12 => ?_)
    · omega
    · refine xild 16 ⟨u18, _, rfl⟩ rfl rfl ?_
      refine xcst 17 (1) ⟨u18, _, rfl⟩ rfl (by decide) (fun z16 h16 => ?_)
      refine xadd 18 _ ⟨u18, _, rfl⟩ rfl rfl (by omega) (by omega) (fun z17 h17 => ?_)
      refine xist 19 ⟨u18, _, rfl⟩ rfl rfl ?_
      have e : trL T (15 * x + (x + 1)) = trL T (15 * x) := trL_no (by omega) (fun k k1 k2 => decide_eq_false (fun z => by
        rw [show k / 15 = x by omega] at z
        omega))
      refine l18i ho ha (by omega) (fun hp1 y1 w1 g1 g2 g3 g4 => ?_) (V - (x + 1)) (x + 1) _ hp w hH hF hB (by unfold lsN; rw [e]; exact hL) (by omega) (by omega) (by omega)
      refine xinc 55 (1) ⟨u18, _, rfl⟩ rfl rfl rfl (by decide) (by omega) (by omega) (fun z52 h52 => ?_)
      refine xgoto ⟨u18, _, rfl⟩ ?_
      exact ih (x + 1) _ hp1 _ _ g1 g2 g3 g4 (by omega) (by omega)
theorem k_list {d : Nat} {hp : amH} {R : xQ} {o V : Nat} {T : sT} (ho : bo o) (hH : bHk 84 bTT hp) (hB : bdOk hp o V T) (hR : ∀ hp1, bHk 84 bTT hp1 → bFx [o, o + 2, o + 4] hp hp1 → bdOk hp1 o V T → lsN hp1 o T 225 → R (.inl none) hp1) : xK (d + 3) 18 [.ref o] hp R := by
  have bV := hB.1
  have hV := hB.2.1.2.1
  refine xin (M := am_m18) rfl rfl (by unfold xAv; simp [amOk, bo_lt ho, Value.category]) ?_
  refine xald 1 ⟨u18, _, rfl⟩ rfl rfl ?_
  refine xcst 2 (0) ⟨u18, _, rfl⟩ rfl (by decide) (fun z1 h1 => ?_)
  refine xputC 5 hH ⟨u18, _, rfl⟩ rfl (bo_lt ho) (by decide) (bo_T ho) rfl (by decide) ⟨rfl, rfl⟩ (by omega) (by omega) (fun hp2 hH2 U2 => ?_)
  have s2 := U2.1
  have n2_o_0 : rN hp2 (o) 0 = rN hp (o) 0 := rU_ne U2 (by omega)
  refine xcst 6 (0) ⟨u18, _, rfl⟩ rfl (by decide) (fun z5 h5 => ?_)
  refine xist 7 ⟨u18, _, rfl⟩ rfl rfl ?_
  refine xpad 2 ?_
  exact l18o ho hR V 0 _ hp2 _ _ hH2 (bFx_U U2 (by simp)) (bdOk_fr hB n2_o_0 (fun i => rU_ne U2 (by omega)) (fun i => rU_ne U2 (by omega))) ⟨by rw [s2]; exact h1, fun t ht => absurd ht (Nat.not_lt_zero t), fun t u v ht => absurd ht (Nat.not_lt_zero t)⟩ (by omega) (by omega)
end
/-! ##### 19.m.027.28c ##### -/
section
/-! ===== the reference lists its triples ===== -/
/-- the triples listed up to the pair n: how many, their points, their sets -/
def rlN (hp : amH) (T : sT) (n : Nat) : Prop := rN hp 66 12 = (((trL T n).length : Nat) : Int) ∧ ∀ t, t < (trL T n).length → rN hp 72 t = (((trL T n).getD t 0 / 15 : Nat) : Int) ∧ rN hp 73 t = (((trL T n).getD t 0 % 15 : Nat) : Int) ∧ rN hp 74 t = T ((trL T n).getD t 0 / 15) ((trL T n).getD t 0 % 15) ∧ rN hp 75 t = ((mk3 T ((trL T n).getD t 0) : Nat) : Int)
theorem gd_app {L : List Nat} {n t : Nat} (ht : t < L.length) : (L ++ [n]).getD t 0 = L.getD t 0 := by
  rw [List.getD_eq_getElem?_getD, List.getD_eq_getElem?_getD, List.getElem?_append_left ht]
theorem gd_end {L : List Nat} {n : Nat} : (L ++ [n]).getD L.length 0 = n := by
  rw [List.getD_eq_getElem?_getD, List.getElem?_append_right (Nat.le_refl _), Nat.sub_self]; rfl
theorem m211i {d : Nat} {hp0 : amH} {R : xQ} {V x : Nat} {T : sT} {a : Int32} (ha : a.toInt = (x : Int)) (hx : x < V)
    (hQ : ∀ hp (y : Int32) (w : Option Value), bHk 84 bTT hp → bFr bLT hp0 hp → rdOk hp V T → rlN hp T (15 * (x + 1)) → xV (d + 1) am_m211 108 [some (.ref 66), some (.int a), some (.int y), w] [] hp R) :
    ∀ (jj y : Nat) (b : Int32) (hp : amH) (w : Option Value), bHk 84 bTT hp → bFr bLT hp0 hp → rdOk hp V T → rlN hp T (15 * x + y) → b.toInt = (y : Int) → x < y → y + jj = V → xV (d + 1) am_m211 19 [some (.ref 66), some (.int a), some (.int b), w] [] hp R := by
  intro jj
  induction jj with
  | zero =>
    intro y b hp w hH hF hB hL hb hxy hj
    have hV := hB.2.1.2.1
    have bV := hB.1
    refine xild 20 ⟨u211, _, rfl⟩ rfl rfl ?_
    refine xald 21 ⟨u211, _, rfl⟩ rfl rfl ?_
    refine xcall 24 [.ref 66] [.int _] hH ⟨u211, _, rfl⟩ rfl rfl rfl rfl rfl (k_points hH (fun z21 h21 => ⟨_, rfl, ?_⟩))
    refine xcmp_ge 27 ⟨u211, _, rfl⟩ rfl (fun c24 => ?_) (fun c24 => ?_)
    · have e : trL T (15 * (x + 1)) = trL T (15 * x + y) := trL_no (by omega) (fun k k1 k2 => decide_eq_false (fun z => by
        rw [show k / 15 = x by omega] at z
        rcases hB.2.1.2.2 x (k % 15) with g | ⟨c, g1, g2, g3, -⟩ <;> omega))
      refine hQ hp b w hH hF hB ?_
      unfold rlN
      rw [e]
      exact hL
    · omega
  | succ jj ih =>
    intro y b hp w hH hF hB hL hb hxy hj
    have hV := hB.2.1.2.1
    have bV := hB.1
    have hTT := hB.2.2.1 x y (by omega) (by omega)
    refine xild 20 ⟨u211, _, rfl⟩ rfl rfl ?_
    refine xald 21 ⟨u211, _, rfl⟩ rfl rfl ?_
    refine xcall 24 [.ref 66] [.int _] hH ⟨u211, _, rfl⟩ rfl rfl rfl rfl rfl (k_points hH (fun z21 h21 => ⟨_, rfl, ?_⟩))
    refine xcmp_ge 27 ⟨u211, _, rfl⟩ rfl (fun c24 => ?_) (fun c24 => ?_)
    · omega
    · refine xald 28 ⟨u211, _, rfl⟩ rfl rfl ?_
      refine xild 29 ⟨u211, _, rfl⟩ rfl rfl ?_
      refine xild 30 ⟨u211, _, rfl⟩ rfl rfl ?_
      refine xcall 33 [.ref 66, .int _, .int _] [] hH ⟨u211, _, rfl⟩ rfl rfl rfl rfl rfl (k_third hH (by omega) (by omega) (by omega) (by omega) (fun z30 h30 => ⟨_, rfl, ?_⟩))
      rw [show a.toInt.toNat = x by omega, show b.toInt.toNat = y by omega, hTT] at h30
      refine xist 34 ⟨u211, _, rfl⟩ rfl rfl ?_
      refine xild 35 ⟨u211, _, rfl⟩ rfl rfl ?_
      refine xild 36 ⟨u211, _, rfl⟩ rfl rfl ?_
      refine xcmp_ge 39 ⟨u211, _, rfl⟩ rfl (fun c36 => ?_) (fun c36 => ?_)
      · have hlt : (y : Int) < T x y := by
          rcases hB.2.1.2.2 x y with g | ⟨c, g1, g2, g3, g4, g5, g6, g7, -⟩ <;> omega
        obtain ⟨c, ec, c1, c2, c3, -⟩ := sOk_at hB.2.1 (rfl : T x y = _) (by omega)
        have tb : trB T (15 * x + y) = true := decide_eq_true (by rw [show (15 * x + y) / 15 = x by omega, show (15 * x + y) % 15 = y by omega]; omega)
        have eL := trL_add tb
        have l35 := trL_35 hB.2.1 (15 * x + y + 1)
        rw [eL, List.length_append, List.length_singleton] at l35
        obtain ⟨L1, L2⟩ := id hL
        have hm := m3_lt (x := x) (y := y) (z := c) (by omega) (by omega) (by omega)
        refine xald 43 ⟨u211, _, rfl⟩ rfl rfl ?_
        refine xgetR 46 72 hH ⟨u211, _, rfl⟩ rfl rfl ?_
        refine xald 47 ⟨u211, _, rfl⟩ rfl rfl ?_
        refine xgetI 50 hH ⟨u211, _, rfl⟩ rfl rfl (fun z47 h47 => ?_)
        refine xild 51 ⟨u211, _, rfl⟩ rfl rfl ?_
        refine xiast 52 (z47).toInt.toNat hH ⟨u211, _, rfl⟩ rfl (by decide) rfl (by omega) (by omega) (by omega) (by omega) (fun hp51 hH51 U51 => ?_)
        have s51 := U51.1
        have n51_66_12 : rN hp51 (66) 12 = rN hp (66) 12 := rU_ne U51 (by omega)
        refine xald 53 ⟨u211, _, rfl⟩ rfl rfl ?_
        refine xgetR 56 73 hH51 ⟨u211, _, rfl⟩ rfl rfl ?_
        refine xald 57 ⟨u211, _, rfl⟩ rfl rfl ?_
        refine xgetI 60 hH51 ⟨u211, _, rfl⟩ rfl rfl (fun z57 h57 => ?_)
        refine xild 61 ⟨u211, _, rfl⟩ rfl rfl ?_
        refine xiast 62 (z57).toInt.toNat hH51 ⟨u211, _, rfl⟩ rfl (by decide) rfl (by omega) (by omega) (by omega) (by omega) (fun hp61 hH61 U61 => ?_)
        have s61 := U61.1
        have n61_66_12 : rN hp61 (66) 12 = rN hp51 (66) 12 := rU_ne U61 (by omega)
        refine xald 63 ⟨u211, _, rfl⟩ rfl rfl ?_
        refine xgetR 66 74 hH61 ⟨u211, _, rfl⟩ rfl rfl ?_
        refine xald 67 ⟨u211, _, rfl⟩ rfl rfl ?_
        refine xgetI 70 hH61 ⟨u211, _, rfl⟩ rfl rfl (fun z67 h67 => ?_)
        refine xild 71 ⟨u211, _, rfl⟩ rfl rfl ?_
        refine xiast 72 (z67).toInt.toNat hH61 ⟨u211, _, rfl⟩ rfl (by decide) rfl (by omega) (by omega) (by omega) (by omega) (fun hp71 hH71 U71 => ?_)
        have s71 := U71.1
        have n71_66_12 : rN hp71 (66) 12 = rN hp61 (66) 12 := rU_ne U71 (by omega)
        refine xald 73 ⟨u211, _, rfl⟩ rfl rfl ?_
        refine xgetR 76 75 hH71 ⟨u211, _, rfl⟩ rfl rfl ?_
        refine xald 77 ⟨u211, _, rfl⟩ rfl rfl ?_
        refine xgetI 80 hH71 ⟨u211, _, rfl⟩ rfl rfl (fun z77 h77 => ?_)
        refine xcst 81 (1) ⟨u211, _, rfl⟩ rfl (by decide) (fun z80 h80 => ?_)
        refine xild 82 ⟨u211, _, rfl⟩ rfl rfl ?_
        refine xshl 83 ⟨u211, _, rfl⟩ rfl ?_
        refine xcst 84 (1) ⟨u211, _, rfl⟩ rfl (by decide) (fun z83 h83 => ?_)
        refine xild 85 ⟨u211, _, rfl⟩ rfl rfl ?_
        refine xshl 86 ⟨u211, _, rfl⟩ rfl ?_
        refine xor_ 87 ⟨u211, _, rfl⟩ rfl ?_
        refine xcst 88 (1) ⟨u211, _, rfl⟩ rfl (by decide) (fun z87 h87 => ?_)
        refine xild 89 ⟨u211, _, rfl⟩ rfl rfl ?_
        refine xshl 90 ⟨u211, _, rfl⟩ rfl ?_
        refine xor_ 91 ⟨u211, _, rfl⟩ rfl ?_
        have e1 := i_shl h80 ha (by omega)
        have e2 := i_shl h83 hb (by omega)
        have e3 := i_or e1.1 e2.1 e1.2 e2.2
        have e4 := i_shl h87 (show z30.toInt = (c : Int) by omega) (by omega)
        have e5 := i_or e3.1 e4.1 e3.2 e4.2
        have eM : ((z80 <<< (a &&& 31) ||| z83 <<< (b &&& 31)) ||| z87 <<< (z30 &&& 31)).toInt = ((m3 x y c : Nat) : Int) := e5.1
        refine xiast 92 (z77).toInt.toNat hH71 ⟨u211, _, rfl⟩ rfl (by decide) rfl (by omega) (by omega) (by omega) (by omega) (fun hp91 hH91 U91 => ?_)
        have s91 := U91.1
        have n91_66_12 : rN hp91 (66) 12 = rN hp71 (66) 12 := rU_ne U91 (by omega)
        refine xald 93 ⟨u211, _, rfl⟩ rfl rfl ?_
        refine xdup 94 ⟨u211, _, rfl⟩ rfl rfl ?_
        refine xgetI 97 hH91 ⟨u211, _, rfl⟩ rfl rfl (fun z94 h94 => ?_)
        refine xcst 98 (1) ⟨u211, _, rfl⟩ rfl (by decide) (fun z97 h97 => ?_)
        refine xadd 99 _ ⟨u211, _, rfl⟩ rfl rfl (by omega) (by omega) (fun z98 h98 => ?_)
        refine xputI 102 hH91 ⟨u211, _, rfl⟩ rfl rfl ⟨rfl, rfl⟩ (by omega) (by omega) (fun hp99 hH99 U99 => ?_)
        have s99 := U99.1
        refine xinc 105 (1) ⟨u211, _, rfl⟩ rfl rfl rfl (by decide) (by omega) (by omega) (fun z102 h102 => ?_)
        refine xgoto ⟨u211, _, rfl⟩ ?_
        have s99 := U99.1
        have u51 := U51.1
        have u61 := U61.1
        have u71 := U71.1
        have u91 := U91.1
        refine ih (y + 1) _ hp99 _ hH99 (hF.trans (((((rU_fr U51 (bIn_all (by decide) _)).trans (rU_fr U61 (bIn_all (by decide) _))).trans (rU_fr U71 (bIn_all (by decide) _))).trans (rU_fr U91 (bIn_all (by decide) _))).trans (rU_fr U99 (by decide)))) (rdOk_fr hB (fun i => by rw [rU_ne U99 (by omega), rU_ne U91 (by omega), rU_ne U71 (by omega), rU_ne U61 (by omega), rU_ne U51 (by omega)])) ?_ (by omega) (by omega) (by omega)
        rw [show 15 * x + (y + 1) = 15 * x + y + 1 by omega]
        refine ⟨by rw [eL, List.length_append, List.length_singleton]; omega, fun t ht => ?_⟩
        rw [eL, List.length_append, List.length_singleton] at ht
        rw [eL, rU_ne U99 (by omega), rU_ne U99 (by omega), rU_ne U99 (by omega), rU_ne U99 (by omega), rU_ne U91 (by omega), rU_ne U91 (by omega), rU_ne U91 (by omega), rU_ne U71 (by omega), rU_ne U71 (by omega), rU_ne U61 (by omega)]
        by_cases g : t = (trL T (15 * x + y)).length
        · subst g
          rw [gd_end, show (15 * x + y) / 15 = x by omega, show (15 * x + y) % 15 = y by omega]
          refine ⟨?_, ?_, ?_, ?_⟩
          · rw [show (trL T (15 * x + y)).length = z47.toInt.toNat by omega]; omega
          · rw [show (trL T (15 * x + y)).length = z57.toInt.toNat by omega]; omega
          · rw [show (trL T (15 * x + y)).length = z67.toInt.toNat by omega]; omega
          · rw [show (trL T (15 * x + y)).length = z77.toInt.toNat by omega, u91, eM]
            unfold mk3
            rw [show (15 * x + y) / 15 = x by omega, show (15 * x + y) % 15 = y by omega, ec, Int.toNat_natCast]
        · rw [gd_app (by omega), rU_ne U51 (by omega), rU_ne U61 (by omega), rU_ne U71 (by omega), rU_ne U91 (by omega)]
          have := L2 t (by omega)
          rw [rU_ne U71 (by omega), rU_ne U61 (by omega), rU_ne U61 (by omega), rU_ne U51 (by omega), rU_ne U51 (by omega), rU_ne U51 (by omega)]
          exact this
      · refine xgoto ⟨u211, _, rfl⟩ ?_
        refine xinc 105 (1) ⟨u211, _, rfl⟩ rfl rfl rfl (by decide) (by omega) (by omega) (fun z102 h102 => ?_)
        refine xgoto ⟨u211, _, rfl⟩ ?_
        have e : trL T (15 * x + (y + 1)) = trL T (15 * x + y) := trL_no (by omega) (fun k k1 k2 => decide_eq_false (fun z => by
          rw [show k / 15 = x by omega, show k % 15 = y by omega] at z
          omega))
        exact ih (y + 1) _ hp _ hH hF hB (by unfold rlN; rw [e]; exact hL) (by omega) (by omega) (by omega)
theorem m211o {d : Nat} {hp0 : amH} {R : xQ} {V : Nat} {T : sT} (hR : ∀ hp1, bHk 84 bTT hp1 → bFr bLT hp0 hp1 → rdOk hp1 V T → rlN hp1 T 225 → R (.inl none) hp1) :
    ∀ (jj x : Nat) (a : Int32) (hp : amH) (v w : Option Value), bHk 84 bTT hp → bFr bLT hp0 hp → rdOk hp V T → rlN hp T (15 * x) → a.toInt = (x : Int) → x + jj = V → xV (d + 1) am_m211 7 [some (.ref 66), some (.int a), v, w] [] hp R := by
  intro jj
  induction jj with
  | zero =>
    intro x a hp v w hH hF hB hL ha hj
    have hV := hB.2.1.2.1
    have bV := hB.1
    refine xild 8 ⟨u211, _, rfl⟩ rfl rfl ?_
    refine xald 9 ⟨u211, _, rfl⟩ rfl rfl ?_
    refine xcall 12 [.ref 66] [.int _] hH ⟨u211, _, rfl⟩ rfl rfl rfl rfl rfl (k_points hH (fun z9 h9 => ⟨_, rfl, ?_⟩))
    refine xcmp_ge 15 ⟨u211, _, rfl⟩ rfl (fun c12 => ?_) (fun c12 => ?_)
    · have e : trL T 225 = trL T (15 * x) := trL_no (by omega) (fun k k1 k2 => decide_eq_false (fun z => by
        rcases hB.2.1.2.2 (k / 15) (k % 15) with g | ⟨c, g1, g2, g3, -⟩ <;> omega))
      exact xretV ⟨u211, _, rfl⟩ rfl (hR hp hH hF hB (by unfold rlN; rw [e]; exact hL))
    · omega
  | succ jj ih =>
    intro x a hp v w hH hF hB hL ha hj
    have hV := hB.2.1.2.1
    have bV := hB.1
    refine xild 8 ⟨u211, _, rfl⟩ rfl rfl ?_
    refine xald 9 ⟨u211, _, rfl⟩ rfl rfl ?_
    refine xcall 12 [.ref 66] [.int _] hH ⟨u211, _, rfl⟩ rfl rfl rfl rfl rfl (k_points hH (fun z9 h9 => ⟨_, rfl, ?_⟩))
    refine xcmp_ge 15 ⟨u211, _, rfl⟩ rfl (fun c12 => ?_) (fun c12 => ?_)
    · omega
    · refine xild 16 ⟨u211, _, rfl⟩ rfl rfl ?_
      refine xcst 17 (1) ⟨u211, _, rfl⟩ rfl (by decide) (fun z16 h16 => ?_)
      refine xadd 18 _ ⟨u211, _, rfl⟩ rfl rfl (by omega) (by omega) (fun z17 h17 => ?_)
      refine xist 19 ⟨u211, _, rfl⟩ rfl rfl ?_
      have e : trL T (15 * x + (x + 1)) = trL T (15 * x) := trL_no (by omega) (fun k k1 k2 => decide_eq_false (fun z => by
        rw [show k / 15 = x by omega] at z
        omega))
      refine m211i ha (by omega) (fun hp1 y1 w1 g1 g2 g3 g4 => ?_) (V - (x + 1)) (x + 1) _ hp w hH hF hB (by unfold rlN; rw [e]; exact hL) (by omega) (by omega) (by omega)
      refine xinc 111 (1) ⟨u211, _, rfl⟩ rfl rfl rfl (by decide) (by omega) (by omega) (fun z108 h108 => ?_)
      refine xgoto ⟨u211, _, rfl⟩ ?_
      exact ih (x + 1) _ hp1 _ _ g1 g2 g3 g4 (by omega) (by omega)
theorem k_rlst {d : Nat} {hp : amH} {R : xQ} {V : Nat} {T : sT} (hH : bHk 84 bTT hp) (hB : rdOk hp V T) (hR : ∀ hp1, bHk 84 bTT hp1 → bFr bLT hp hp1 → rdOk hp1 V T → rlN hp1 T 225 → R (.inl none) hp1) : xK (d + 1) 211 [.ref 66] hp R := by
  have bV := hB.1
  have hV := hB.2.1.2.1
  refine xin (M := am_m211) rfl rfl rfl ?_
  refine xald 1 ⟨u211, _, rfl⟩ rfl rfl ?_
  refine xcst 2 (0) ⟨u211, _, rfl⟩ rfl (by decide) (fun z1 h1 => ?_)
  refine xputI 5 hH ⟨u211, _, rfl⟩ rfl rfl ⟨rfl, rfl⟩ (by omega) (by omega) (fun hp2 hH2 U2 => ?_)
  have s2 := U2.1
  refine xcst 6 (0) ⟨u211, _, rfl⟩ rfl (by decide) (fun z5 h5 => ?_)
  refine xist 7 ⟨u211, _, rfl⟩ rfl rfl ?_
  refine xpad 2 ?_
  exact m211o hR V 0 _ hp2 _ _ hH2 (rU_fr U2 (by decide)) (rdOk_fr hB (fun i => rU_ne U2 (by omega))) ⟨by rw [s2]; exact h1, fun t ht => absurd ht (Nat.not_lt_zero t)⟩ (by omega) (by omega)
/-- how many triples there are -/
theorem k_rtm {d : Nat} {hp : amH} {R : xQ} {V : Nat} {T : sT} (hH : bHk 84 bTT hp) (hB : rdOk hp V T) (hR : ∀ (z : Int32) hp1, bHk 84 bTT hp1 → bFr bLT hp hp1 → rdOk hp1 V T → rlN hp1 T 225 → z.toInt = (((trL T 225).length : Nat) : Int) → R (.inl (some (.int z))) hp1) : xK (d + 2) 213 [.ref 66] hp R := by
  refine xin (M := am_m213) rfl rfl rfl ?_
  refine xald 1 ⟨u213, _, rfl⟩ rfl rfl ?_
  refine xcall 4 [.ref 66] [] hH ⟨u213, _, rfl⟩ rfl rfl rfl rfl rfl (k_rlst hH hB (fun hp1 hH1 F1 B1 L1 => ⟨_, rfl, ?_⟩))
  refine xald 5 ⟨u213, _, rfl⟩ rfl rfl ?_
  refine xgetI 8 hH1 ⟨u213, _, rfl⟩ rfl rfl (fun z5 h5 => ?_)
  exact xret ⟨u213, _, rfl⟩ rfl (hR _ hp1 hH1 F1 B1 L1 (by rw [h5]; exact L1.1))
end
/-! ##### 19.m.028.28d ##### -/
section
/-! ===== boards copied; loads with what comes of them ===== -/
theorem u2 : bUp 0 am_m2.1 = true := by decide +kernel
section XCP
variable {M : amM} {pc a' d : Nat} {L : List (Option Value)} {hp : amH} {Q : xQ}
theorem xacpy (q N : Nat) {s t : Nat} {i : _} {n dp sp : Int32} (hH : bHk 84 bTT hp) (h : xI M pc (.invokestatic i) a' 6) (e : q = pc + 3) (hs : s < 84) (ht : t < 84) (hTs : bTT s = some (32, N, [.inl (0, 4294967295)])) (hTt : bTT t = some (32, N, [.inl (0, 4294967295)])) (hsp : sp.toInt = 0) (hdp : dp.toInt = 0) (hn : n.toInt = (N : Int))
    (hw : ∀ hp1, bHk 84 bTT hp1 → bFx [t] hp hp1 → (∀ i, i < N → rN hp1 t i = rN hp s i) → xV d M q L [] hp1 Q) : xV d M pc L [.int n, .int dp, .ref t, .int sp, .ref s] hp Q := by
  obtain ⟨ws, h1, h2, h3⟩ := r_row hH hs hTs
  obtain ⟨wt, g1, g2, -⟩ := r_row hH ht hTt
  obtain ⟨k1, k2, k3⟩ := r_set hH hTt (w := ws) g1 h2
  have e1 : sp = 0 := Int32.toInt_inj.mp hsp
  have e2 : dp = 0 := Int32.toInt_inj.mp hdp
  subst e1 e2
  have e3 : n.toNatClampNeg = N := by rw [Int32.toNatClampNeg, hn, Int.toNat_natCast]
  have hcp : (wt.map Value.int).take 0 ++ (((ws.map Value.int).drop 0).take N ++ (wt.map Value.int).drop (0 + N)) = ws.map Value.int := by
    rw [List.take_zero, List.nil_append, List.drop_zero, List.take_of_length_le (by rw [List.length_map]; omega), Nat.zero_add, List.drop_eq_nil_of_le (by rw [List.length_map]; omega), List.append_nil]
  have z0 : (0 : Int32).toNatClampNeg = 0 := by decide
  have hn0 : ¬ n < 0 := fun z => by
    have g := Int32.lt_iff_toInt_lt.mp z
    have z1 : (0 : Int32).toInt = 0 := by decide
    omega
  refine xstep h (fun cl hl => ⟨cl, ?_, hl⟩) (hw _ k1 (fun c k hc => k2 c k ?_) (fun i hi => by rw [k3 i hi, h3 i hi]))
  · subst e
    simp only [amDo, if_true, amCopy, h1, g1, z0, e3, hcp]
    rw [if_pos ⟨trivial, trivial, by decide, by decide, hn0, by rw [List.length_map]; omega, by rw [List.length_map]; omega, by decide⟩]
  · have hc : ¬ t = c := fun z => hc (by rw [z]; simp)
    simp [bIn, show Nat.beq t c = false from by cases e : Nat.beq t c; rfl; exact absurd (Nat.eq_of_beq_eq_true e) hc]
end XCP
/-- a board is copied -/
theorem k_cpB {d : Nat} {hp : amH} {R : xQ} {o o2 V : Nat} {T : sT} (ho : bo o) (ho2 : bo o2) (hne : ¬ o = o2) (hH : bHk 84 bTT hp) (hB : bdOk hp o2 V T) (hR : ∀ hp1, bHk 84 bTT hp1 → bFx [o, o + 1, o + 3] hp hp1 → bdOk hp1 o V T → rN hp1 o 1 = 0 → R (.inl none) hp1) : xK d 2 [.ref o, .ref o2] hp R := by
  have q := b_pts hH ho
  have q2 := b_pts hH ho2
  refine xin (M := am_m2) rfl rfl (by unfold xAv; simp [amOk, bo_lt ho, bo_lt ho2, Value.category]) ?_
  refine xald 1 ⟨u2, _, rfl⟩ rfl rfl ?_
  refine xald 2 ⟨u2, _, rfl⟩ rfl rfl ?_
  refine xgetC 5 hH ⟨u2, _, rfl⟩ rfl (bo_lt ho2) (by decide) (bo_T ho2) rfl (by decide) (fun z2 h2 => ?_)
  refine xputC 8 hH ⟨u2, _, rfl⟩ rfl (bo_lt ho) (by decide) (bo_T ho) rfl (by decide) ⟨rfl, rfl⟩ (by omega) (by omega) (fun hp5 hH5 U5 => ?_)
  refine xald 9 ⟨u2, _, rfl⟩ rfl rfl ?_
  refine xcst 10 (0) ⟨u2, _, rfl⟩ rfl (by decide) (fun z9 h9 => ?_)
  refine xputC 13 hH5 ⟨u2, _, rfl⟩ rfl (bo_lt ho) (by decide) (bo_T ho) rfl (by decide) ⟨rfl, rfl⟩ (by omega) (by omega) (fun hp10 hH10 U10 => ?_)
  refine xald 14 ⟨u2, _, rfl⟩ rfl rfl ?_
  refine xgetD 17 (o2 + 1) hH10 ⟨u2, _, rfl⟩ rfl (bo_lt ho2) (by decide) (bo_T ho2) rfl (by decide) ?_
  refine xcst 18 (0) ⟨u2, _, rfl⟩ rfl (by decide) (fun z17 h17 => ?_)
  refine xald 19 ⟨u2, _, rfl⟩ rfl rfl ?_
  refine xgetD 22 (o + 1) hH10 ⟨u2, _, rfl⟩ rfl (bo_lt ho) (by decide) (bo_T ho) rfl (by decide) ?_
  refine xcst 23 (0) ⟨u2, _, rfl⟩ rfl (by decide) (fun z22 h22 => ?_)
  refine xald 24 ⟨u2, _, rfl⟩ rfl rfl ?_
  refine xgetD 27 (o + 1) hH10 ⟨u2, _, rfl⟩ rfl (bo_lt ho) (by decide) (bo_T ho) rfl (by decide) ?_
  refine xlen 28 hH10 ⟨u2, _, rfl⟩ rfl (bo_lt1 ho) (bo_T1 ho) (by decide) (by decide) (fun z27 h27 => ?_)
  refine xacpy 31 225 hH10 ⟨u2, _, rfl⟩ rfl (bo_lt1 ho2) (bo_lt1 ho) (bo_T1 ho2) (bo_T1 ho) (by omega) (by omega) (by omega) (fun hp28 hH28 F28 E28 => ?_)
  refine xald 32 ⟨u2, _, rfl⟩ rfl rfl ?_
  refine xgetD 35 (o2 + 3) hH28 ⟨u2, _, rfl⟩ rfl (bo_lt ho2) (by decide) (bo_T ho2) rfl (by decide) ?_
  refine xcst 36 (0) ⟨u2, _, rfl⟩ rfl (by decide) (fun z35 h35 => ?_)
  refine xald 37 ⟨u2, _, rfl⟩ rfl rfl ?_
  refine xgetD 40 (o + 3) hH28 ⟨u2, _, rfl⟩ rfl (bo_lt ho) (by decide) (bo_T ho) rfl (by decide) ?_
  refine xcst 41 (0) ⟨u2, _, rfl⟩ rfl (by decide) (fun z40 h40 => ?_)
  refine xald 42 ⟨u2, _, rfl⟩ rfl rfl ?_
  refine xgetD 45 (o + 3) hH28 ⟨u2, _, rfl⟩ rfl (bo_lt ho) (by decide) (bo_T ho) rfl (by decide) ?_
  refine xlen 46 hH28 ⟨u2, _, rfl⟩ rfl (bo_lt3 ho) (bo_T3 ho) (by decide) (by decide) (fun z45 h45 => ?_)
  refine xacpy 49 15 hH28 ⟨u2, _, rfl⟩ rfl (bo_lt3 ho2) (bo_lt3 ho) (bo_T3 ho2) (bo_T3 ho) (by omega) (by omega) (by omega) (fun hp46 hH46 F46 E46 => ?_)
  have u5 := U5.1
  have u10 := U10.1
  have bb : o = 3 ∧ o2 = 8 ∨ o = 8 ∧ o2 = 3 := by omega
  refine xretV ⟨u2, _, rfl⟩ rfl (hR hp46 hH46 ((((bFx_U U5 (by simp)).trans (bFx_U U10 (by simp))).trans (F28.mono (by simp))).trans (F46.mono (by simp))) ⟨?_, hB.2.1, fun u v hu hv => ?_, hB.2.2.2.1, fun p hp => ?_⟩ ?_)
  · rw [bFx_n F46 (by simp), bFx_n F28 (by simp), rU_ne U10 (by omega), u5, h2]
    exact hB.1
  · rw [bFx_n F46 (by simp), E28 _ (by omega), rU_ne U10 (by omega), rU_ne U5 (by omega)]
    exact hB.2.2.1 u v hu hv
  · rw [E46 p hp, bFx_n F28 (by simp; omega), rU_ne U10 (by omega), rU_ne U5 (by omega)]
    exact hB.2.2.2.2 p hp
  · rw [bFx_n F46 (by simp), bFx_n F28 (by simp), u10]
    exact h9
end
/-! ##### 19.m.029.29a ##### -/
section
/-! ===== loads with the systems that come of them: the class ===== -/
def wTy : List (Nat × Nat) := [(13, 0), (13, 1), (13, 2)]
def wFg : List (Nat × Nat) := [(14, 0), (14, 3)]
theorem u92 : bUp 0 am_m92.1 = true := by decide +kernel
theorem u55 : bUp 0 am_m55.1 = true := by decide +kernel
theorem k_tyr {d : Nat} {hp : amH} {R : xQ} (hH : bHk 84 bTT hp) (hR : ∀ hp1, bHk 84 bTT hp1 → bFr wTy hp hp1 → (∀ i, i < 3 → rN hp1 13 i = 0) → R (.inl none) hp1) : xK d 92 [.ref 13] hp R := by
  refine xin (M := am_m92) rfl rfl rfl ?_
  refine xald 1 ⟨u92, _, rfl⟩ rfl rfl ?_
  refine xcst 2 (0) ⟨u92, _, rfl⟩ rfl (by decide) (fun z1 h1 => ?_)
  refine xputC 5 hH ⟨u92, _, rfl⟩ rfl (by decide) (by decide) rfl rfl (by decide) ⟨rfl, rfl⟩ (by omega) (by omega) (fun hp2 hH2 U2 => ?_)
  have s2 := U2.1
  have n2_13_1 : rN hp2 (13) 1 = rN hp (13) 1 := rU_ne U2 (by omega)
  have n2_13_2 : rN hp2 (13) 2 = rN hp (13) 2 := rU_ne U2 (by omega)
  refine xald 6 ⟨u92, _, rfl⟩ rfl rfl ?_
  refine xcst 7 (0) ⟨u92, _, rfl⟩ rfl (by decide) (fun z6 h6 => ?_)
  refine xputC 10 hH2 ⟨u92, _, rfl⟩ rfl (by decide) (by decide) rfl rfl (by decide) ⟨rfl, rfl⟩ (by omega) (by omega) (fun hp7 hH7 U7 => ?_)
  have s7 := U7.1
  have n7_13_0 : rN hp7 (13) 0 = rN hp2 (13) 0 := rU_ne U7 (by omega)
  have n7_13_2 : rN hp7 (13) 2 = rN hp2 (13) 2 := rU_ne U7 (by omega)
  refine xald 11 ⟨u92, _, rfl⟩ rfl rfl ?_
  refine xcst 12 (0) ⟨u92, _, rfl⟩ rfl (by decide) (fun z11 h11 => ?_)
  refine xputC 15 hH7 ⟨u92, _, rfl⟩ rfl (by decide) (by decide) rfl rfl (by decide) ⟨rfl, rfl⟩ (by omega) (by omega) (fun hp12 hH12 U12 => ?_)
  have s12 := U12.1
  have n12_13_0 : rN hp12 (13) 0 = rN hp7 (13) 0 := rU_ne U12 (by omega)
  have n12_13_1 : rN hp12 (13) 1 = rN hp7 (13) 1 := rU_ne U12 (by omega)
  exact xretV ⟨u92, _, rfl⟩ rfl (hR _ hH12 (((rU_fr U2 (by decide)).trans (rU_fr U7 (by decide))).trans (rU_fr U12 (by decide))) (fun i hi => by rcases (by omega : i = 0 ∨ i = 1 ∨ i = 2) with rfl | rfl | rfl <;> omega))
theorem k_fga {d : Nat} {hp : amH} {R : xQ} (hH : bHk 84 bTT hp) (hR : ∀ hp1, bHk 84 bTT hp1 → bFr wFg hp hp1 → rN hp1 14 0 = 0 → rN hp1 14 3 = 0 → R (.inl none) hp1) : xK d 55 [.ref 14] hp R := by
  refine xin (M := am_m55) rfl rfl rfl ?_
  refine xald 1 ⟨u55, _, rfl⟩ rfl rfl ?_
  refine xcst 2 (0) ⟨u55, _, rfl⟩ rfl (by decide) (fun z1 h1 => ?_)
  refine xputC 5 hH ⟨u55, _, rfl⟩ rfl (by decide) (by decide) rfl rfl (by decide) ⟨rfl, rfl⟩ (by omega) (by omega) (fun hp2 hH2 U2 => ?_)
  have s2 := U2.1
  have n2_14_3 : rN hp2 (14) 3 = rN hp (14) 3 := rU_ne U2 (by omega)
  refine xald 6 ⟨u55, _, rfl⟩ rfl rfl ?_
  refine xcst 7 (0) ⟨u55, _, rfl⟩ rfl (by decide) (fun z6 h6 => ?_)
  refine xputC 10 hH2 ⟨u55, _, rfl⟩ rfl (by decide) (by decide) rfl rfl (by decide) (by rw [show z6 = 0 from Int32.toInt_inj.mp h6]; exact ⟨rfl, rfl⟩) (by omega) (by omega) (fun hp7 hH7 U7 => ?_)
  have s7 := U7.1
  have n7_14_0 : rN hp7 (14) 0 = rN hp2 (14) 0 := rU_ne U7 (by omega)
  exact xretV ⟨u55, _, rfl⟩ rfl (hR _ hH7 ((rU_fr U2 (by decide)).trans (rU_fr U7 (by decide))) (by omega) (by omega))
end
/-! ##### 19.m.030.29b ##### -/
section
/-! ===== loads with the systems that come of them: the reference ===== -/
theorem l199z {d : Nat} {hp0 : amH} {R : xQ} {m : Int32} (m0 : 3 ≤ m.toInt) (m1 : m.toInt ≤ 15) (hR : ∀ hp1, bHk 84 bTT hp1 → bFr [(67, 999)] hp0 hp1 → rN hp1 67 0 = m.toInt → hE hp1 → (∀ i, 1 ≤ i → i < 4 → rN hp1 67 i = 0) → R (.inl none) hp1) :
    ∀ (jj : Nat) (k : Int32) (hp : amH), k.toInt + (jj : Int) = 229 → 0 ≤ k.toInt → bHk 84 bTT hp → bFr [(67, 999)] hp0 hp → (∀ i, 4 ≤ i → i < k.toInt.toNat → rN hp 67 i = -1) → (∀ i, 1 ≤ i → i < 4 → i < k.toInt.toNat → rN hp 67 i = 0) → xV d am_m199 2 [some (.ref 66), some (.int m), some (.int k)] [] hp R := by
  intro jj
  induction jj using Nat.strongRecOn with
  | ind jj ih =>
    intro k hp hjj k0 hH hF hM hZ
    refine xild 3 ⟨u199, _, rfl⟩ rfl rfl ?_
    refine xsip 6 (229) ⟨u199, _, rfl⟩ rfl (by decide) (fun z3 h3 => ?_)
    refine xcmp_ge 9 ⟨u199, _, rfl⟩ rfl (fun c6 => ?_) (fun c6 => ?_)
    · refine xald 32 ⟨u199, _, rfl⟩ rfl rfl ?_
      refine xgetR 35 67 hH ⟨u199, _, rfl⟩ rfl rfl ?_
      refine xcst 36 (0) ⟨u199, _, rfl⟩ rfl (by decide) (fun z35 h35 => ?_)
      refine xild 37 ⟨u199, _, rfl⟩ rfl rfl ?_
      refine xiast 38 0 hH ⟨u199, _, rfl⟩ rfl (by decide) rfl (by omega) (by omega) (by omega) (by omega) (fun hp37 hH37 U37 => ?_)
      exact xretV ⟨u199, _, rfl⟩ rfl (hR hp37 hH37 (hF.trans (rU_fr U37 (bIn_all (by decide) _))) U37.1 (fun i g1 g2 => by rw [show rN hp37 67 i = rN hp 67 i from rU_ne U37 (by omega)]; exact hM i g1 (by omega)) (fun i g1 g2 => by rw [show rN hp37 67 i = rN hp 67 i from rU_ne U37 (by omega)]; exact hZ i g1 g2 (by omega)))
    · refine xald 10 ⟨u199, _, rfl⟩ rfl rfl ?_
      refine xgetR 13 67 hH ⟨u199, _, rfl⟩ rfl rfl ?_
      refine xild 14 ⟨u199, _, rfl⟩ rfl rfl ?_
      refine xild 15 ⟨u199, _, rfl⟩ rfl rfl ?_
      refine xcst 16 (4) ⟨u199, _, rfl⟩ rfl (by decide) (fun z15 h15 => ?_)
      refine xcmp_ge 19 ⟨u199, _, rfl⟩ rfl (fun c16 => ?_) (fun c16 => ?_)
      · refine xcst 24 (-1) ⟨u199, _, rfl⟩ rfl (by decide) (fun z23 h23 => ?_)
        refine xiast 25 (k).toInt.toNat hH ⟨u199, _, rfl⟩ rfl (by decide) rfl (by omega) (by omega) (by omega) (by omega) (fun hp24 hH24 U24 => ?_)
        refine xinc 28 (1) ⟨u199, _, rfl⟩ rfl rfl rfl (by decide) (by omega) (by omega) (fun z25 h25 => ?_)
        refine xgoto ⟨u199, _, rfl⟩ ?_
        exact ih (jj - 1) (by omega) _ hp24 (by omega) (by omega) hH24 (hF.trans (rU_fr U24 (bIn_all (by decide) _))) (fun i g1 g2 => by
          by_cases e : i = k.toInt.toNat
          · rw [e, U24.1]; omega
          · rw [show rN hp24 67 i = rN hp 67 i from rU_ne U24 (by omega)]; exact hM i g1 (by omega)) (fun i g1 g2 g3 => by
          by_cases e : i = k.toInt.toNat
          · rw [e, U24.1]; omega
          · rw [show rN hp24 67 i = rN hp 67 i from rU_ne U24 (by omega)]; exact hZ i g1 g2 (by omega))
      · refine xcst 20 (0) ⟨u199, _, rfl⟩ rfl (by decide) (fun z19 h19 => ?_)
        refine xgoto ⟨u199, _, rfl⟩ ?_
        refine xiast 25 (k).toInt.toNat hH ⟨u199, _, rfl⟩ rfl (by decide) rfl (by omega) (by omega) (by omega) (by omega) (fun hp24 hH24 U24 => ?_)
        refine xinc 28 (1) ⟨u199, _, rfl⟩ rfl rfl rfl (by decide) (by omega) (by omega) (fun z25 h25 => ?_)
        refine xgoto ⟨u199, _, rfl⟩ ?_
        exact ih (jj - 1) (by omega) _ hp24 (by omega) (by omega) hH24 (hF.trans (rU_fr U24 (bIn_all (by decide) _))) (fun i g1 g2 => by
          by_cases e : i = k.toInt.toNat
          · rw [e, U24.1]; omega
          · rw [show rN hp24 67 i = rN hp 67 i from rU_ne U24 (by omega)]; exact hM i g1 (by omega)) (fun i g1 g2 g3 => by
          by_cases e : i = k.toInt.toNat
          · rw [e, U24.1]; omega
          · rw [show rN hp24 67 i = rN hp 67 i from rU_ne U24 (by omega)]; exact hZ i g1 g2 (by omega))
theorem k_emz {d : Nat} {hp0 : amH} {R : xQ} {m : Int32} (hH : bHk 84 bTT hp0) (m0 : 3 ≤ m.toInt) (m1 : m.toInt ≤ 15) (hR : ∀ hp1, bHk 84 bTT hp1 → bFr [(67, 999)] hp0 hp1 → rN hp1 67 0 = m.toInt → hE hp1 → (∀ i, 1 ≤ i → i < 4 → rN hp1 67 i = 0) → R (.inl none) hp1) : xK d 199 [.ref 66, .int m] hp0 R := by
  refine xin (M := am_m199) rfl rfl rfl ?_
  refine xcst 1 (0) ⟨u199, _, rfl⟩ rfl (by decide) (fun z0 h0 => ?_)
  refine xist 2 ⟨u199, _, rfl⟩ rfl rfl ?_
  exact l199z m0 m1 hR 229 _ hp0 (by omega) (by omega) hH (bFr.refl _ _) (fun i g1 g2 => absurd g2 (by omega)) (fun i g1 g2 g3 => absurd g3 (by omega))
end
/-! ##### 19.m.032.30a ##### -/
section
/-! ===== ways by hand: rules for references and longs ===== -/
def rJ (hp : amH) (c i : Nat) : Int := match bFld hp c i with
  | some (.long x) => x.toInt
  | _ => 0
/-- the field i of the cell c holds v, all else is as it was -/
def rV (hp hp1 : amH) (c i : Nat) (v : Value) : Prop := bFld hp1 c i = some v ∧ ∀ c1 i1, ¬ (c1 = c ∧ i1 = i) → bFld hp1 c1 i1 = bFld hp c1 i1
theorem rJ_eq {hp hp1 : amH} {c i c1 i1 : Nat} (h : bFld hp1 c1 i1 = bFld hp c i) : rJ hp1 c1 i1 = rJ hp c i := by unfold rJ; rw [h]
theorem rV_ne {hp hp1 : amH} {c i : Nat} {v : Value} (h : rV hp hp1 c i v) {c1 i1 : Nat} (hn : ¬ (c1 = c ∧ i1 = i)) : rN hp1 c1 i1 = rN hp c1 i1 := rN_eq (h.2 c1 i1 hn)
theorem rV_J {hp hp1 : amH} {c i : Nat} {x : Int64} (h : rV hp hp1 c i (.long x)) : rJ hp1 c i = x.toInt := by unfold rJ; rw [h.1]
theorem rJ_ne {hp hp1 : amH} {c i : Nat} {m : Int} (h : rU hp hp1 c i m) {c1 i1 : Nat} (hn : ¬ (c1 = c ∧ i1 = i)) : rJ hp1 c1 i1 = rJ hp c1 i1 := rJ_eq (h.2 c1 i1 hn)
theorem bFld_at {hp : amH} {c f : Nat} {v : Value} (h : bFld hp c f = some v) : ∃ d, hp[c]? = some d ∧ d.2[f]? = some v := by
  unfold bFld at h
  split at h
  · next d e => exact ⟨d, e, h⟩
  · cases h
/-- a field of a cell written with what its type allows -/
theorem v_set {hp : amH} (hH : bHk 84 bTT hp) {c t n f : Nat} {ys : List bY} {y : bY} {v : Value} (hc : c < 84) (hT : bTT c = some (t, n, ys)) (hy : bDy (t, n, ys) f = some y) (hm : f < n) (hv : bYr 84 y v) : ∃ vs, hp[c]? = some (t, vs) ∧ f < vs.length ∧ vs.length = n ∧ bHk 84 bTT (hp.set c (t, vs.set f v)) ∧ rV hp (hp.set c (t, vs.set f v)) c f v := by
  obtain ⟨⟨t1, vs⟩, g1, g2, g3, g4⟩ := bHk_at hH hc hT
  have g2 : t1 = t := g2
  subst g2
  have g3 : vs.length = n := g3
  refine ⟨vs, g1, by omega, g3, bHk_set hH hT (bHc_set ⟨rfl, g3, g4⟩ hy hv), ?_, fun c1 i1 hne => ?_⟩
  · rw [bFld_set g1, if_pos rfl]
    dsimp only
    rw [List.getElem?_set_self (by omega)]
  · rw [bFld_set g1]
    split
    · next z =>
      subst z
      dsimp only
      rw [List.getElem?_set_ne (fun z => hne ⟨rfl, z.symm⟩)]
      unfold bFld
      rw [g1]
    · rfl
theorem x_row2 {hp : amH} (hH : bHk 84 bTT hp) {c n t : Nat} {ys : List bY} (hc : c < 84) (hT : bTT c = some (t, n, ys)) : ∃ vs, hp[c]? = some (t, vs) ∧ vs.length = n := by
  obtain ⟨⟨t1, vs⟩, g1, g2, g3, g4⟩ := bHk_at hH hc hT
  have g2 : t1 = t := g2
  subst g2
  exact ⟨vs, g1, g3⟩
theorem bT_J {v : Value} (h : bT 1 v) : ∃ x, v = .long x := by
  rcases h with ⟨-, x, rfl⟩ | ⟨h, -⟩ | ⟨h, -⟩ | ⟨h, -⟩ | ⟨h, -⟩
  · exact ⟨x, rfl⟩
  all_goals exact absurd h (by decide)
theorem bT_J1 {n : Nat} {x : Int64} : bYr n (.inr (.inl 1)) (.long x) := Or.inl ⟨rfl, x, rfl⟩
theorem lg_cmp_t (x y : Int64) : ((lg_cmp x y).toInt = -1 ∧ x.toInt < y.toInt) ∨ ((lg_cmp x y).toInt = 0 ∧ x.toInt = y.toInt) ∨ ((lg_cmp x y).toInt = 1 ∧ y.toInt < x.toInt) := by
  unfold lg_cmp
  have h1 : (1 : Int32).toInt = 1 := by decide
  have h0 : (0 : Int32).toInt = 0 := by decide
  have hm : (-1 : Int32).toInt = -1 := by decide
  by_cases g : x > y
  · rw [if_pos g]
    exact Or.inr (Or.inr ⟨h1, Int64.lt_iff_toInt_lt.mp g⟩)
  · rw [if_neg g]
    by_cases e : x = y
    · rw [if_pos e]
      exact Or.inr (Or.inl ⟨h0, by rw [e]⟩)
    · rw [if_neg e]
      have k1 : ¬ y.toInt < x.toInt := fun z => g (Int64.lt_iff_toInt_lt.mpr z)
      have k2 : ¬ x.toInt = y.toInt := fun z => e (Int64.toInt_inj.mp z)
      exact Or.inl ⟨hm, by omega⟩
section XJ
variable {M : amM} {pc a b d : Nat} {L : List (Option Value)} {st : List Value} {hp : amH} {Q : xQ}
theorem xgetF (q j : Nat) {c t n f : Nat} {ys : List bY} {i : _} (hH : bHk 84 bTT hp) (h : xI M pc (.getfield i) t f) (e : q = pc + 3) (hc : c < 84) (h32 : t < 32) (hT : bTT c = some (t, n, ys)) (hF : bFld hp c f = some (.ref j)) (hw : xV d M q L (.ref j :: st) hp Q) : xV d M pc L (.ref c :: st) hp Q := by
  obtain ⟨vs, g1, -⟩ := x_row2 hH hc hT
  obtain ⟨d1, k1, k2⟩ := bFld_at hF
  cases g1.symm.trans k1
  refine xstep h (fun cl hl => ⟨cl, ?_, hl⟩) hw
  subst e
  simp [amDo, amStep, amFGet, g1, k2, h32]
theorem xgetJ (q : Nat) {c t n f : Nat} {ys : List bY} {i : _} (hH : bHk 84 bTT hp) (h : xI M pc (.getfield i) t f) (e : q = pc + 3) (hc : c < 84) (h32 : t < 32) (hT : bTT c = some (t, n, ys)) (hy : bDy (t, n, ys) f = some (.inr (.inl 1))) (hm : f < n) (hw : ∀ z : Int64, z.toInt = rJ hp c f → xV d M q L (.long z :: st) hp Q) : xV d M pc L (.ref c :: st) hp Q := by
  obtain ⟨⟨t1, vs⟩, g1, g2, g3, g4⟩ := bHk_at hH hc hT
  have g2 : t1 = t := g2
  subst g2
  have g3 : vs.length = n := g3
  have hv : f < vs.length := by omega
  obtain ⟨y, k1, k2⟩ := g4 f vs[f] (List.getElem?_eq_getElem hv)
  rw [hy] at k1
  cases k1
  obtain ⟨x, ex⟩ := bT_J k2
  refine xstep h (fun cl hl => ⟨cl, ?_, hl⟩) (hw x ?_)
  · subst e
    simp [amDo, amStep, amFGet, g1, h32, List.getElem?_eq_getElem hv, ex]
  · unfold rJ bFld
    rw [g1]
    dsimp only
    rw [List.getElem?_eq_getElem hv, ex]
theorem xputJ (q : Nat) {c t n f : Nat} {ys : List bY} {i : _} {x : Int64} (hH : bHk 84 bTT hp) (h : xI M pc (.putfield i) t f) (e : q = pc + 3) (hc : c < 84) (h32 : t < 32) (hT : bTT c = some (t, n, ys)) (hy : bDy (t, n, ys) f = some (.inr (.inl 1))) (hm : f < n) (hn : narrow (amFty t f) (.long x) = .long x ∧ fits (amFty t f) (.long x) = true)
    (hw : ∀ hp1, bHk 84 bTT hp1 → rV hp hp1 c f (.long x) → xV d M q L st hp1 Q) : xV d M pc L (.long x :: .ref c :: st) hp Q := by
  obtain ⟨vs, g1, g2, g3, k1, k2⟩ := v_set hH (v := .long x) hc hT hy hm bT_J1
  refine xstep h (fun cl hl => ⟨cl, ?_, hl⟩) (hw _ k1 k2)
  subst e
  simp [amDo, amStep, amFSet, g1, g2, hn.1, hn.2, h32]
theorem xaald (q n j : Nat) {c len : Nat} {ys : List bY} {x : Int32} (hH : bHk 84 bTT hp) (h : xI M pc .aaload a b) (e : q = pc + 1) (hc : c < 84) (hT : bTT c = some (35, len, ys)) (hn : x.toInt = (n : Int)) (hl : n < len) (hF : bFld hp c n = some (.ref j)) (hw : xV d M q L (.ref j :: st) hp Q) : xV d M pc L (.int x :: .ref c :: st) hp Q := by
  obtain ⟨vs, g1, g3⟩ := x_row2 hH hc hT
  obtain ⟨d1, k1, k2⟩ := bFld_at hF
  cases g1.symm.trans k1
  have k2 : vs[n]? = some (.ref j) := k2
  refine xstep h (fun cl hl => ⟨cl, ?_, hl⟩) hw
  obtain ⟨e1, e2⟩ := rw_in (m := vs.length) hn (by omega)
  subst e
  simp [amDo, amStep, amALd, g1, e1, e2, amIsA, k2]
theorem xaast (q n j : Nat) {c len : Nat} {ys : List bY} {y : bY} {x : Int32} (hH : bHk 84 bTT hp) (h : xI M pc .aastore a b) (e : q = pc + 1) (hc : c < 84) (hT : bTT c = some (35, len, ys)) (hn : x.toInt = (n : Int)) (hl : n < len) (hy : bDy (35, len, ys) n = some y) (hv : bYr 84 y (.ref j)) (hj : amIsSn hp (.ref j) = true)
    (hw : ∀ hp1, bHk 84 bTT hp1 → rV hp hp1 c n (.ref j) → xV d M q L st hp1 Q) : xV d M pc L (.ref j :: .int x :: .ref c :: st) hp Q := by
  obtain ⟨vs, g1, g2, g3, k1, k2⟩ := v_set hH (v := .ref j) hc hT hy hl hv
  refine xstep h (fun cl hl => ⟨cl, ?_, hl⟩) (hw _ k1 k2)
  obtain ⟨e1, e2⟩ := rw_in (m := vs.length) hn (by omega)
  subst e
  simp only [amDo, amStep, amASt, g1, e1, e2, hj, and_self, if_true, Option.map_some, id]
theorem xlald (q n : Nat) {c len : Nat} {x : Int32} (hH : bHk 84 bTT hp) (h : xI M pc .laload a b) (e : q = pc + 1) (hc : c < 84) (hT : bTT c = some (33, len, [.inr (.inl 1)])) (hn : x.toInt = (n : Int)) (hl : n < len) (hw : ∀ z : Int64, z.toInt = rJ hp c n → xV d M q L (.long z :: st) hp Q) : xV d M pc L (.int x :: .ref c :: st) hp Q := by
  obtain ⟨⟨t1, vs⟩, g1, g2, g3, g4⟩ := bHk_at hH hc hT
  have g2 : t1 = 33 := g2
  subst g2
  have g3 : vs.length = len := g3
  have hl2 : n < vs.length := by omega
  obtain ⟨y, k1, k2⟩ := g4 n vs[n] (List.getElem?_eq_getElem hl2)
  rw [show bDy (33, len, [.inr (.inl 1)]) n = some (.inr (.inl 1)) from rfl] at k1
  cases k1
  obtain ⟨w, ex⟩ := bT_J k2
  obtain ⟨e1, e2⟩ := rw_in (m := vs.length) hn hl2
  refine xstep h (fun cl hl => ⟨cl, ?_, hl⟩) (hw w ?_)
  · subst e
    simp [amDo, amStep, amALd, g1, e1, e2, amIsJ, List.getElem?_eq_getElem hl2, ex]
  · unfold rJ bFld
    rw [g1]
    dsimp only
    rw [List.getElem?_eq_getElem hl2, ex]
theorem xlast (q n : Nat) {c len : Nat} {x : Int32} {v : Int64} (hH : bHk 84 bTT hp) (h : xI M pc .lastore a b) (e : q = pc + 1) (hc : c < 84) (hT : bTT c = some (33, len, [.inr (.inl 1)])) (hn : x.toInt = (n : Int)) (hl : n < len)
    (hw : ∀ hp1, bHk 84 bTT hp1 → rV hp hp1 c n (.long v) → xV d M q L st hp1 Q) : xV d M pc L (.long v :: .int x :: .ref c :: st) hp Q := by
  obtain ⟨vs, g1, g2, g3, k1, k2⟩ := v_set hH (v := .long v) (y := .inr (.inl 1)) hc hT rfl hl bT_J1
  refine xstep h (fun cl hl => ⟨cl, ?_, hl⟩) (hw _ k1 k2)
  obtain ⟨e1, e2⟩ := rw_in (m := vs.length) hn (by omega)
  subst e
  simp only [amDo, amStep, amASt, g1, e1, e2, amIsJ, and_self, if_true, Option.map_some, id]
theorem xlldG (q : Nat) {i : Instr} {k : Nat} {x : Int64} (h : xI M pc i a b) (hi : (i = .lload k ∧ q = pc + 2) ∨ (∃ n : Fin 4, i = .lload_n n ∧ n = k ∧ q = pc + 1)) (l : lAt L k = some (some (.long x))) (hw : xV d M q L (.long x :: st) hp Q) : xV d M pc L st hp Q := by
  refine xstep h (fun cl hl => ⟨cl, ?_, hl⟩) hw
  have hg := (hl.2 k _ l).2
  rcases hi with ⟨rfl, rfl⟩ | ⟨n, rfl, rfl, rfl⟩
  · simp [amDo, amStep, amLd, hg, amIsJ]
  · simp [amDo, amStep, amLd, hg, amIsJ]
theorem xlld (q : Nat) {n : Fin 4} {x : Int64} (h : xI M pc (.lload_n n) a b) (e : q = pc + 1) (l : lAt L (n : Nat) = some (some (.long x))) (hw : xV d M q L (.long x :: st) hp Q) : xV d M pc L st hp Q :=
  xlldG q h (Or.inr ⟨n, rfl, rfl, e⟩) l hw
theorem xlstG (q : Nat) {i : Instr} {k : Nat} {x : Int64} (h : xI M pc i a b) (hi : (i = .lstore k ∧ q = pc + 2) ∨ (∃ n : Fin 4, i = .lstore_n n ∧ n = k ∧ q = pc + 1)) (hk : Nat.ble (k + 2) M.2.1 = true) (hw : xV d M q (qSet2 L k (.long x)) st hp Q) : xV d M pc L (.long x :: st) hp Q := by
  refine xstep h (fun cl hl => ⟨amSet2 cl k (.long x), ?_, lq_set2 hl k rfl⟩) hw
  have hk : k + 1 < M.2.1 := Nat.le_of_ble_eq_true hk
  rcases hi with ⟨rfl, rfl⟩ | ⟨n, rfl, rfl, rfl⟩
  · simp [amDo, amStep, amSt2, amIsJ, hk]
  · simp [amDo, amStep, amSt2, amIsJ, hk]
theorem xlst (q : Nat) {n : Fin 4} {x : Int64} (h : xI M pc (.lstore_n n) a b) (e : q = pc + 1) (hk : Nat.ble ((n : Nat) + 2) M.2.1 = true) (hw : xV d M q (qSet2 L (n : Nat) (.long x)) st hp Q) : xV d M pc L (.long x :: st) hp Q :=
  xlstG q h (Or.inr ⟨n, rfl, rfl, e⟩) hk hw
/-- a reference stored in a local -/
theorem xast (q : Nat) {n : Fin 4} {x : Nat} (h : xI M pc (.astore_n n) a b) (e : q = pc + 1) (hk : Nat.ble ((n : Nat) + 1) M.2.1 = true) (hx : amOk 84 (.ref x) = true) (hw : xV d M q (qSet L (n : Nat) (.ref x)) st hp Q) : xV d M pc L (.ref x :: st) hp Q := by
  refine xstep h (fun cl hl => ⟨amSet1 cl n (.ref x), ?_, lq_setV hl _ hx⟩) hw
  have hk : (n : Nat) < M.2.1 := Nat.le_of_ble_eq_true hk
  subst e
  simp [amDo, amStep, amSt1, isA_ref, hk]
theorem xnull (q : Nat) {i : Int} {x : Nat} (h : xI M pc (.ifnull i) a b) (e : q = pc + 3) (hw : xV d M q L st hp Q) : xV d M pc L (.ref x :: st) hp Q := by
  refine xstep h (fun cl hl => ⟨cl, ?_, hl⟩) hw
  subst e
  simp [amDo, amStep]
theorem xnonnull {i : Int} {x : Nat} (h : xI M pc (.ifnonnull i) a b) (hw : xV d M a L st hp Q) : xV d M pc L (.ref x :: st) hp Q := by
  refine xstep h (fun cl hl => ⟨cl, ?_, hl⟩) hw
  simp [amDo, amStep]
theorem xlcst (q : Nat) (m : Int) {n : Fin 2} (h : xI M pc (.lconst n) a b) (e : q = pc + 1) (hm : (Int64.ofNat (n : Nat)).toInt = m) (hw : ∀ z : Int64, z.toInt = m → xV d M q L (.long z :: st) hp Q) : xV d M pc L st hp Q := by
  refine xstep h (fun cl hl => ⟨cl, ?_, hl⟩) (hw _ hm)
  subst e
  simp [amDo, amStep]
theorem xldc2 (q : Nat) (m : Int) {i : _} (h : xI M pc (.ldc2_w i) a b) (e : q = pc + 3) (hm : (Int64.ofNat a).toInt = m) (hw : ∀ z : Int64, z.toInt = m → xV d M q L (.long z :: st) hp Q) : xV d M pc L st hp Q := by
  refine xstep h (fun cl hl => ⟨cl, ?_, hl⟩) (hw _ hm)
  subst e
  simp [amDo, amStep]
theorem xl2i (q : Nat) {x : Int64} (h : xI M pc .l2i a b) (e : q = pc + 1) (hw : xV d M q L (.int x.toInt32 :: st) hp Q) : xV d M pc L (.long x :: st) hp Q := by
  refine xstep h (fun cl hl => ⟨cl, ?_, hl⟩) hw
  subst e
  simp [amDo, amStep, amJ]
theorem xlneg (q : Nat) {x : Int64} (h : xI M pc .lneg a b) (e : q = pc + 1) (hw : xV d M q L (.long (-x) :: st) hp Q) : xV d M pc L (.long x :: st) hp Q := by
  refine xstep h (fun cl hl => ⟨cl, ?_, hl⟩) hw
  subst e
  simp [amDo, amStep, amJ]
theorem xladd (q : Nat) {x y : Int64} (h : xI M pc .ladd a b) (e : q = pc + 1) (hw : xV d M q L (.long (x + y) :: st) hp Q) : xV d M pc L (.long y :: .long x :: st) hp Q := by
  refine xstep h (fun cl hl => ⟨cl, ?_, hl⟩) hw
  subst e
  simp [amDo, amStep, amLL]
theorem xlsub (q : Nat) {x y : Int64} (h : xI M pc .lsub a b) (e : q = pc + 1) (hw : xV d M q L (.long (x - y) :: st) hp Q) : xV d M pc L (.long y :: .long x :: st) hp Q := by
  refine xstep h (fun cl hl => ⟨cl, ?_, hl⟩) hw
  subst e
  simp [amDo, amStep, amLL]
theorem xland (q : Nat) {x y : Int64} (h : xI M pc .land a b) (e : q = pc + 1) (hw : xV d M q L (.long (x &&& y) :: st) hp Q) : xV d M pc L (.long y :: .long x :: st) hp Q := by
  refine xstep h (fun cl hl => ⟨cl, ?_, hl⟩) hw
  subst e
  simp [amDo, amStep, amLL]
theorem xlor (q : Nat) {x y : Int64} (h : xI M pc .lor a b) (e : q = pc + 1) (hw : xV d M q L (.long (x ||| y) :: st) hp Q) : xV d M pc L (.long y :: .long x :: st) hp Q := by
  refine xstep h (fun cl hl => ⟨cl, ?_, hl⟩) hw
  subst e
  simp [amDo, amStep, amLL]
theorem xlcmp (q : Nat) {x y : Int64} (h : xI M pc .lcmp a b) (e : q = pc + 1) (hw : ∀ z : Int32, ((z.toInt = -1 ∧ x.toInt < y.toInt) ∨ (z.toInt = 0 ∧ x.toInt = y.toInt) ∨ (z.toInt = 1 ∧ y.toInt < x.toInt)) → xV d M q L (.int z :: st) hp Q) : xV d M pc L (.long y :: .long x :: st) hp Q := by
  refine xstep h (fun cl hl => ⟨cl, ?_, hl⟩) (hw (lg_cmp x y) (lg_cmp_t x y))
  subst e
  simp [amDo, amStep, amLL]
theorem xlshl (q : Nat) {x : Int64} {y : Int32} (h : xI M pc .lshl a b) (e : q = pc + 1) (hw : xV d M q L (.long (x <<< (y.toInt64 &&& 63)) :: st) hp Q) : xV d M pc L (.int y :: .long x :: st) hp Q := by
  refine xstep h (fun cl hl => ⟨cl, ?_, hl⟩) hw
  subst e
  simp [amDo, amStep, amLI]
theorem xretJ {x : Int64} (h : xI M pc .lreturn a b) (hr : M.2.2.2.2.1 = some .long) (hQ : Q (.inl (some (.long x))) hp) : xV d M pc L [.long x] hp Q := by
  intro cl hl
  obtain ⟨hu, r, hr2⟩ := h
  rw [hr2]
  refine bWp_ret (q := (pc, .lreturn, a, b)) ?_ hQ
  simp [amDo, amRetV, hr, narrow]
end XJ
/-- arguments with their places: a long takes two -/
def qArgs : List Value → List (Option Value)
  | [] => []
  | v :: r => bif isJ (some v) then some v :: none :: qArgs r else some v :: qArgs r
def qAv (av : List Value) : Bool := av.all (fun v => amOk 84 v)
theorem qAv_ok : ∀ (av : List Value) (i : Nat), qAv av = true → amOkL 84 (lv_args i av) = true
  | [], i, _ => rfl
  | u :: r, i, h => by
    unfold qAv at h
    rw [List.all_cons] at h
    simp only [Bool.and_eq_true] at h
    unfold lv_args amOkL
    rw [List.all_cons]
    exact Bool.and_eq_true_iff.mpr ⟨h.1, qAv_ok r _ h.2⟩
theorem qAv_get : ∀ (av : List Value) (i : Nat), ∀ k v, lAt (qArgs av) k = some (some v) → amGet (lv_args i av) (i + k) = some v
  | [], i, k, v, e => by cases e
  | u :: r, i, k, v, e => by
    unfold qArgs at e
    unfold lv_args amGet
    dsimp only
    cases hj : isJ (some u) with
    | true =>
      rw [hj] at e
      have hc : u.category = 2 := by cases u <;> first | rfl | cases hj
      match k, e with
      | 0, e => cases e; rw [if_pos (by omega)]
      | 1, e => cases e
      | k + 2, e =>
        rw [if_neg (by omega), hc, show i + (k + 2) = i + 2 + k by omega]
        exact qAv_get r (i + 2) k v e
    | false =>
      rw [hj] at e
      have hc := isJ_cat hj
      match k, e with
      | 0, e => cases e; rw [if_pos (by omega)]
      | k + 1, e =>
        rw [if_neg (by omega), hc, show i + (k + 1) = i + 1 + k by omega]
        exact qAv_get r (i + 1) k v e
theorem xinJ {d k : Nat} {M : amM} {av : List Value} {hp : amH} {R : xQ} (hM : amGG k = some M) (h0 : amSeek M.1 0 = M.1) (ha : qAv av = true) (hw : xV d M 0 (qArgs av) [] hp R) : xK d k av hp R := by
  refine ⟨M, hM, ?_⟩
  have := hw (lv_args 0 av) ⟨qAv_ok av 0 ha, fun k v e => by
    have g2 := qAv_get av 0 k v e
    rw [Nat.zero_add] at g2
    exact ⟨trivial, g2⟩⟩
  rw [h0] at this
  exact this
end
/-! ##### 19.m.033.30b ##### -/
section
/-! ===== longs as sets of numbers below 62 ===== -/
def jN (x : Int64) : Nat := x.toBitVec.toNat
theorem jN_t {x : Int64} {n : Nat} (h : x.toInt = (n : Int)) : jN x = n ∧ n < 9223372036854775808 := by
  have e : x.toInt = x.toBitVec.toInt := rfl
  have l := x.toBitVec.isLt
  unfold jN
  rw [e, BitVec.toInt_eq_toNat_cond] at h
  split at h
  · omega
  · omega
theorem t_jN {x : Int64} (h : jN x < 9223372036854775808) : x.toInt = ((jN x : Nat) : Int) := by
  have e : x.toInt = x.toBitVec.toInt := rfl
  unfold jN at *
  rw [e, BitVec.toInt_eq_toNat_cond, if_pos (by omega)]
theorem j_or {x y : Int64} {a b : Nat} (hx : x.toInt = (a : Int)) (hy : y.toInt = (b : Int)) : (x ||| y).toInt = ((a ||| b : Nat) : Int) := by
  obtain ⟨e1, l1⟩ := jN_t hx
  obtain ⟨e2, l2⟩ := jN_t hy
  have l : a ||| b < 2 ^ 63 := Nat.or_lt_two_pow (by omega) (by omega)
  have e3 : jN (x ||| y) = a ||| b := by
    unfold jN at *
    rw [Int64.toBitVec_or, BitVec.toNat_or, e1, e2]
  rw [t_jN (by rw [e3]; omega), e3]
theorem j_and {x y : Int64} {a b : Nat} (hx : x.toInt = (a : Int)) (hy : y.toInt = (b : Int)) : (x &&& y).toInt = ((a &&& b : Nat) : Int) := by
  obtain ⟨e1, l1⟩ := jN_t hx
  obtain ⟨e2, l2⟩ := jN_t hy
  have l : a &&& b ≤ a := Nat.and_le_left
  have e3 : jN (x &&& y) = a &&& b := by
    unfold jN at *
    rw [Int64.toBitVec_and, BitVec.toNat_and, e1, e2]
  rw [t_jN (by rw [e3]; omega), e3]
theorem j_sub {x y : Int64} {a b : Nat} (hx : x.toInt = (a : Int)) (hy : y.toInt = (b : Int)) (h : b ≤ a) : (x - y).toInt = ((a - b : Nat) : Int) := by
  obtain ⟨e1, l1⟩ := jN_t hx
  rw [Int64.toInt_sub, hx, hy]
  have : ((a : Int) - (b : Int)) = ((a - b : Nat) : Int) := by omega
  rw [this]
  exact Int.bmod_eq_of_le (by omega) (by omega)
theorem j_sh : ∀ k : Fin 62, ((Int32.ofNat k.1).toInt64 &&& 63).toBitVec.smod 64 = BitVec.ofNat 64 k.1 := by decide
theorem j_shl {o : Int64} {c : Int32} {k : Nat} (ho : o.toInt = 1) (hc : c.toInt = (k : Int)) (hk : k < 62) : (o <<< (c.toInt64 &&& 63)).toInt = ((2 ^ k : Nat) : Int) := by
  obtain ⟨e1, -⟩ := jN_t (n := 1) ho
  have e2 : (c.toInt64 &&& 63).toBitVec.smod 64 = BitVec.ofNat 64 k := by
    have : c = Int32.ofNat k := Int32.toInt_inj.mp (by rw [hc, Int32.toInt_ofNat_of_lt (by omega)])
    rw [this]
    exact j_sh ⟨k, hk⟩
  have h1 : 2 ^ k ≤ 2 ^ 61 := Nat.pow_le_pow_right (by decide) (by omega)
  have e3 : jN (o <<< (c.toInt64 &&& 63)) = 2 ^ k := by
    unfold jN at *
    rw [show (o <<< (c.toInt64 &&& 63)).toBitVec = o.toBitVec <<< ((c.toInt64 &&& 63).toBitVec.smod 64) from rfl, e2, BitVec.shiftLeft_eq', BitVec.toNat_shiftLeft, e1, BitVec.toNat_ofNat, Nat.mod_eq_of_lt (show k < 2 ^ 64 by omega), Nat.shiftLeft_eq, Nat.one_mul, Nat.mod_eq_of_lt (by omega)]
  rw [t_jN (by rw [e3]; omega), e3]
end
