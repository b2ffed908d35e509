/-! ===== ways by hand: opposite points ===== -/
def ad (a b : Nat) : Nat := a &&& (b ^^^ 4294967295)
theorem ad_bit {a b : Nat} (ha : a < 32768) (w : Nat) : (ad a b).testBit w = (a.testBit w && !b.testBit w) := by
  unfold ad
  rw [Nat.testBit_and, Nat.testBit_xor, show (4294967295 : Nat) = 2 ^ 32 - 1 from rfl, Nat.testBit_two_pow_sub_one]
  by_cases hw : w < 32
  · rw [decide_eq_true hw, Bool.xor_true]
  · have p2 : 2 ^ 15 ≤ 2 ^ w := Nat.pow_le_pow_right (by decide) (by omega)
    rw [Nat.testBit_lt_two_pow (x := a) (by omega)]
    rfl
theorem ad_lt {a b : Nat} (ha : a < 32768) : ad a b < 32768 := by
  have : ad a b ≤ a := Nat.and_le_left
  omega
theorem i_ad {x y c : Int32} {a b : Nat} (hx : x.toInt = (a : Int)) (hy : y.toInt = (b : Int)) (ha : a < 32768) (hc : c.toInt = -1) : (x &&& (y ^^^ c)).toInt = (ad a b : Int) := by
  have hc : c = -1 := x_eq.mpr hc
  subst hc
  have e : bN (x &&& (y ^^^ (-1))) = ad a b := by
    have h1 := bN_t hx
    have h2 := bN_t hy
    unfold bN at h1 h2 ⊢
    rw [Int32.toBitVec_and, BitVec.toNat_and, Int32.toBitVec_xor, BitVec.toNat_xor, h1, h2]
    rfl
  have := ad_lt (a := a) (b := b) ha
  rw [t_bN (by omega), e]
theorem nt_all : ∀ n : Fin 15, (ntF (Int32.ofNat (2 ^ (n : Nat)))).toInt = (n : Int) := by decide +kernel
theorem k_ntz {d : Nat} {hp : amH} {R : xQ} {x : Int32} {n : Nat} (hx : x.toInt = ((2 ^ n : Nat) : Int)) (hn : n < 15) (hR : ∀ z : Int32, z.toInt = (n : Int) → R (.inl (some (.int z))) hp) : xK d 342 [.int x] hp R := by
  refine ⟨am_m342, rfl, w_ntz (hR _ ?_)⟩
  have p2 : 2 ^ n < 2 ^ 15 := Nat.pow_lt_pow_right (by decide) hn
  have e : x = Int32.ofNat (2 ^ n) := by
    apply Int32.toInt_inj.mp
    rw [hx, Int32.toInt_ofNat_of_lt (by omega)]
  rw [e]
  exact nt_all ⟨n, hn⟩
/-- the rows of one quadrilateral -/
def Qr (hp : amH) (q : Nat) (I : Nat → Nat) : Prop := ∀ x, x < 4 → rN hp 76 (4 * q + x) = (I x : Int)
theorem or4_bit {a b c d w : Nat} : (a ||| b ||| c ||| d).testBit w = (a.testBit w || b.testBit w || c.testBit w || d.testBit w) := by
  rw [Nat.testBit_or, Nat.testBit_or, Nat.testBit_or]
theorem k_qp {d : Nat} {hp : amH} {R : xQ} {q : Int32} (hH : bHk 84 bTT hp) {m Q : Nat} {A : Nat → Nat × Nat × Nat} {I : Nat → Nat} (hq : Qr hp Q I) (hI : ∀ x, x < 4 → I x < m) (m35 : m ≤ 35) (hm : ∀ k, k < m → rN hp 75 k = (mk A k : Int)) (hl : ∀ k, k < m → mk A k < 32768) (eq : q.toInt = (Q : Int)) (Q200 : Q < 200) (hR : ∀ z : Int32, z.toInt = ((mk A (I 0) ||| mk A (I 1) ||| mk A (I 2) ||| mk A (I 3) : Nat) : Int) → mk A (I 0) ||| mk A (I 1) ||| mk A (I 2) ||| mk A (I 3) < 32768 → R (.inl (some (.int z))) hp) : xK d 218 [.ref 66, .int q] hp R := by
  have i0 := hI 0 (by omega)
  have i1 := hI 1 (by omega)
  have i2 := hI 2 (by omega)
  have i3 := hI 3 (by omega)
  refine xin (M := am_m218) rfl rfl rfl ?_
  refine xald 1 ⟨u218, _, rfl⟩ rfl rfl ?_
  refine xgetR 4 75 hH ⟨u218, _, rfl⟩ rfl rfl ?_
  refine xald 5 ⟨u218, _, rfl⟩ rfl rfl ?_
  refine xgetR 8 76 hH ⟨u218, _, rfl⟩ rfl rfl ?_
  refine xcst 9 (4) ⟨u218, _, rfl⟩ rfl (by decide) (fun z8 h8 => ?_)
  refine xild 10 ⟨u218, _, rfl⟩ rfl rfl ?_
  refine xmul 11 (4 * Int32.toInt q) ⟨u218, _, rfl⟩ rfl (by rw [h8]) (by omega) (by omega) (fun z10 h10 => ?_)
  refine xiald 12 (4 * Q + 0) hH ⟨u218, _, rfl⟩ rfl (by decide) rfl (by omega) (by omega) (fun z11 h11 => ?_)
  have o11 : z11.toInt = (I 0 : Int) := by rw [h11, hq 0 (by omega)]
  refine xiald 13 (I 0) hH ⟨u218, _, rfl⟩ rfl (by decide) rfl (by omega) (by omega) (fun z12 h12 => ?_)
  refine xald 14 ⟨u218, _, rfl⟩ rfl rfl ?_
  refine xgetR 17 75 hH ⟨u218, _, rfl⟩ rfl rfl ?_
  refine xald 18 ⟨u218, _, rfl⟩ rfl rfl ?_
  refine xgetR 21 76 hH ⟨u218, _, rfl⟩ rfl rfl ?_
  refine xcst 22 (4) ⟨u218, _, rfl⟩ rfl (by decide) (fun z21 h21 => ?_)
  refine xild 23 ⟨u218, _, rfl⟩ rfl rfl ?_
  refine xmul 24 (4 * Int32.toInt q) ⟨u218, _, rfl⟩ rfl (by rw [h21]) (by omega) (by omega) (fun z23 h23 => ?_)
  refine xcst 25 (1) ⟨u218, _, rfl⟩ rfl (by decide) (fun z24 h24 => ?_)
  refine xadd 26 _ ⟨u218, _, rfl⟩ rfl rfl (by omega) (by omega) (fun z25 h25 => ?_)
  refine xiald 27 (4 * Q + 1) hH ⟨u218, _, rfl⟩ rfl (by decide) rfl (by omega) (by omega) (fun z26 h26 => ?_)
  have o26 : z26.toInt = (I 1 : Int) := by rw [h26, hq 1 (by omega)]
  refine xiald 28 (I 1) hH ⟨u218, _, rfl⟩ rfl (by decide) rfl (by omega) (by omega) (fun z27 h27 => ?_)
  refine xor_ 29 ⟨u218, _, rfl⟩ rfl ?_
  refine xald 30 ⟨u218, _, rfl⟩ rfl rfl ?_
  refine xgetR 33 75 hH ⟨u218, _, rfl⟩ rfl rfl ?_
  refine xald 34 ⟨u218, _, rfl⟩ rfl rfl ?_
  refine xgetR 37 76 hH ⟨u218, _, rfl⟩ rfl rfl ?_
  refine xcst 38 (4) ⟨u218, _, rfl⟩ rfl (by decide) (fun z37 h37 => ?_)
  refine xild 39 ⟨u218, _, rfl⟩ rfl rfl ?_
  refine xmul 40 (4 * Int32.toInt q) ⟨u218, _, rfl⟩ rfl (by rw [h37]) (by omega) (by omega) (fun z39 h39 => ?_)
  refine xcst 41 (2) ⟨u218, _, rfl⟩ rfl (by decide) (fun z40 h40 => ?_)
  refine xadd 42 _ ⟨u218, _, rfl⟩ rfl rfl (by omega) (by omega) (fun z41 h41 => ?_)
  refine xiald 43 (4 * Q + 2) hH ⟨u218, _, rfl⟩ rfl (by decide) rfl (by omega) (by omega) (fun z42 h42 => ?_)
  have o42 : z42.toInt = (I 2 : Int) := by rw [h42, hq 2 (by omega)]
  refine xiald 44 (I 2) hH ⟨u218, _, rfl⟩ rfl (by decide) rfl (by omega) (by omega) (fun z43 h43 => ?_)
  refine xor_ 45 ⟨u218, _, rfl⟩ rfl ?_
  refine xald 46 ⟨u218, _, rfl⟩ rfl rfl ?_
  refine xgetR 49 75 hH ⟨u218, _, rfl⟩ rfl rfl ?_
  refine xald 50 ⟨u218, _, rfl⟩ rfl rfl ?_
  refine xgetR 53 76 hH ⟨u218, _, rfl⟩ rfl rfl ?_
  refine xcst 54 (4) ⟨u218, _, rfl⟩ rfl (by decide) (fun z53 h53 => ?_)
  refine xild 55 ⟨u218, _, rfl⟩ rfl rfl ?_
  refine xmul 56 (4 * Int32.toInt q) ⟨u218, _, rfl⟩ rfl (by rw [h53]) (by omega) (by omega) (fun z55 h55 => ?_)
  refine xcst 57 (3) ⟨u218, _, rfl⟩ rfl (by decide) (fun z56 h56 => ?_)
  refine xadd 58 _ ⟨u218, _, rfl⟩ rfl rfl (by omega) (by omega) (fun z57 h57 => ?_)
  refine xiald 59 (4 * Q + 3) hH ⟨u218, _, rfl⟩ rfl (by decide) rfl (by omega) (by omega) (fun z58 h58 => ?_)
  have o58 : z58.toInt = (I 3 : Int) := by rw [h58, hq 3 (by omega)]
  refine xiald 60 (I 3) hH ⟨u218, _, rfl⟩ rfl (by decide) rfl (by omega) (by omega) (fun z59 h59 => ?_)
  refine xor_ 61 ⟨u218, _, rfl⟩ rfl ?_
  have v0 : z12.toInt = (mk A (I 0) : Int) := by rw [h12, hm _ (hI 0 (by omega))]
  have v1 : z27.toInt = (mk A (I 1) : Int) := by rw [h27, hm _ (hI 1 (by omega))]
  have v2 : z43.toInt = (mk A (I 2) : Int) := by rw [h43, hm _ (hI 2 (by omega))]
  have v3 : z59.toInt = (mk A (I 3) : Int) := by rw [h59, hm _ (hI 3 (by omega))]
  obtain ⟨o1, o2⟩ := i_or v0 v1 (hl _ (hI 0 (by omega))) (hl _ (hI 1 (by omega)))
  obtain ⟨o3, o4⟩ := i_or o1 v2 o2 (hl _ (hI 2 (by omega)))
  obtain ⟨o5, o6⟩ := i_or o3 v3 o4 (hl _ (hI 3 (by omega)))
  exact xret ⟨u218, _, rfl⟩ rfl (hR _ o5 o6)
theorem l219 {d : Nat} {hp : amH} {R : xQ} {q u : Int32} (hH : bHk 84 bTT hp) {m Q : Nat} {A : Nat → Nat × Nat × Nat} {I : Nat → Nat} (hq : Qr hp Q I) (hI : ∀ x, x < 4 → I x < m) (m35 : m ≤ 35) (hm : ∀ k, k < m → rN hp 75 k = (mk A k : Int)) (hl : ∀ k, k < m → mk A k < 32768) (eq : q.toInt = (Q : Int)) (Q200 : Q < 200) {P : Fin 6 → Nat} {U t0 : Nat} (h6 : SixP (fun x => A (I x)) P) (hb : ∀ x, x < 4 → ∀ w, (mk A (I x)).testBit w = true ↔ me (fun x => A (I x)) x w) (hu : u.toInt = (U : Int)) (U15 : U < 15) (ht0 : t0 < 4) (hme : me (fun x => A (I x)) t0 U) (n15 : opp P U < 15) (hR : ∀ z : Int32, z.toInt = (opp P U : Int) → R (.inl (some (.int z))) hp) :
    ∀ (jj L X : Nat) (w x : Int32) (v0 : Option Value), X + jj = 4 → X ≤ 4 → w.toInt = (L : Int) → L < 32768 → x.toInt = (X : Int) → (∀ v, L.testBit v = true ↔ ((∃ s, s < 4 ∧ me (fun x => A (I x)) s v) ∧ ¬ v = U ∧ ∀ s, s < X → me (fun x => A (I x)) s U → ¬ me (fun x => A (I x)) s v)) → xV (d + 1) am_m219 15 [some (.ref 66), some (.int q), some (.int u), some (.int w), some (.int x), v0] [] hp R := by
  intro jj
  induction jj using Nat.strongRecOn with
  | ind jj ih =>
    intro L X w x v0 hjj hX hw hL hx hbits
    refine xild2 17 ⟨u219, _, rfl⟩ rfl rfl ?_
    refine xcst 18 (4) ⟨u219, _, rfl⟩ rfl (by decide) (fun z17 h17 => ?_)
    refine xcmp_ge 21 ⟨u219, _, rfl⟩ rfl (fun c18 => ?_) (fun c18 => ?_)
    · have eL : L = 2 ^ opp P U := by
        refine Nat.eq_of_testBit_eq (fun v => ?_)
        rw [Nat.testBit_two_pow]
        have h4 := opp_l h6 ht0 hme v
        have hX4 : X = 4 := by omega
        rw [hX4] at hbits
        have h5 := hbits v
        cases e : L.testBit v
        · refine (decide_eq_false (fun z => ?_)).symm
          rw [h5.mpr (h4.mpr z.symm)] at e
          cases e
        · exact (decide_eq_true (h4.mp (h5.mp e)).symm).symm
      refine xild 63 ⟨u219, _, rfl⟩ rfl rfl ?_
      refine xcallS 66 [.int _] [] hH ⟨u219, _, rfl⟩ rfl rfl rfl rfl rfl (k_ntz (n := opp P U) (by rw [hw, eL]) n15 (fun z63 h63 => ⟨_, rfl, ?_⟩))
      exact xret ⟨u219, _, rfl⟩ rfl (hR _ h63)
    · refine xald 22 ⟨u219, _, rfl⟩ rfl rfl ?_
      refine xgetR 25 75 hH ⟨u219, _, rfl⟩ rfl rfl ?_
      refine xald 26 ⟨u219, _, rfl⟩ rfl rfl ?_
      refine xgetR 29 76 hH ⟨u219, _, rfl⟩ rfl rfl ?_
      refine xcst 30 (4) ⟨u219, _, rfl⟩ rfl (by decide) (fun z29 h29 => ?_)
      refine xild 31 ⟨u219, _, rfl⟩ rfl rfl ?_
      refine xmul 32 (4 * Int32.toInt q) ⟨u219, _, rfl⟩ rfl (by rw [h29]) (by omega) (by omega) (fun z31 h31 => ?_)
      refine xild2 34 ⟨u219, _, rfl⟩ rfl rfl ?_
      refine xadd 35 _ ⟨u219, _, rfl⟩ rfl rfl (by omega) (by omega) (fun z34 h34 => ?_)
      refine xiald 36 (4 * Q + X) hH ⟨u219, _, rfl⟩ rfl (by decide) rfl (by omega) (by omega) (fun z35 h35 => ?_)
      have o35 : z35.toInt = (I X : Int) := by rw [h35, hq X (by omega)]
      have iX := hI X (by omega)
      refine xiald 37 (I X) hH ⟨u219, _, rfl⟩ rfl (by decide) rfl (by omega) (by omega) (fun z36 h36 => ?_)
      have v36 : z36.toInt = (mk A (I X) : Int) := by rw [h36, hm _ iX]
      have l36 := hl _ iX
      refine xist2 39 ⟨u219, _, rfl⟩ rfl rfl ?_
      refine xild2 41 ⟨u219, _, rfl⟩ rfl rfl ?_
      refine xild 42 ⟨u219, _, rfl⟩ rfl rfl ?_
      refine xshr 43 ⟨u219, _, rfl⟩ rfl ?_
      refine xcst 44 (1) ⟨u219, _, rfl⟩ rfl (by decide) (fun z43 h43 => ?_)
      refine xand 45 ⟨u219, _, rfl⟩ rfl ?_
      have hbit := i_bit v36 l36 hu U15 h43
      have hbX := hb X (by omega) U
      refine xcst 46 (1) ⟨u219, _, rfl⟩ rfl (by decide) (fun z45 h45 => ?_)
      refine xcmp_ne 49 ⟨u219, _, rfl⟩ rfl (fun c46 => ?_) (fun c46 => ?_)
      · refine xinc 59 (1) ⟨u219, _, rfl⟩ rfl rfl rfl (by decide) (by omega) (by omega) (fun z56 h56 => ?_)
        refine xgoto ⟨u219, _, rfl⟩ ?_
        exact ih (jj - 1) (by omega) L (X + 1) _ _ _ (by omega) (by omega) hw hL (by omega) (fun v => by
          rw [hbits v]
          refine ⟨fun ⟨g1, g2, g3⟩ => ⟨g1, g2, fun s hs hsu => ?_⟩, fun ⟨g1, g2, g3⟩ => ⟨g1, g2, fun s hs => g3 s (by omega)⟩⟩
          by_cases e : s = X
          · subst e
            rw [if_pos (hbX.mpr hsu)] at hbit
            omega
          · exact g3 s (by omega) hsu)
      · refine xild 50 ⟨u219, _, rfl⟩ rfl rfl ?_
        refine xild2 52 ⟨u219, _, rfl⟩ rfl rfl ?_
        refine xcst 53 (-1) ⟨u219, _, rfl⟩ rfl (by decide) (fun z52 h52 => ?_)
        refine xxor 54 ⟨u219, _, rfl⟩ rfl ?_
        refine xand 55 ⟨u219, _, rfl⟩ rfl ?_
        refine xist 56 ⟨u219, _, rfl⟩ rfl rfl ?_
        refine xinc 59 (1) ⟨u219, _, rfl⟩ rfl rfl rfl (by decide) (by omega) (by omega) (fun z56 h56 => ?_)
        refine xgoto ⟨u219, _, rfl⟩ ?_
        exact ih (jj - 1) (by omega) (ad L (mk A (I X))) (X + 1) _ _ _ (by omega) (by omega) (i_ad hw v36 hL h52) (ad_lt hL) (by omega) (fun v => by
          rw [ad_bit hL, Bool.and_eq_true, hbits v, Bool.not_eq_true']
          have hbv := hb X (by omega) v
          refine ⟨fun ⟨⟨g1, g2, g3⟩, g4⟩ => ⟨g1, g2, fun s hs hsu => ?_⟩, fun ⟨g1, g2, g3⟩ => ⟨⟨g1, g2, fun s hs => g3 s (by omega)⟩, ?_⟩⟩
          · by_cases e : s = X
            · subst e
              intro z
              rw [hbv.mpr z] at g4
              cases g4
            · exact g3 s (by omega) hsu
          · have hXU : me (fun x => A (I x)) X U := by
              refine hbX.mp (Classical.byContradiction (fun hn => ?_))
              rw [if_neg hn] at hbit
              omega
            have := g3 X (by omega) hXU
            cases e : (mk A (I X)).testBit v
            · rfl
            · exact absurd (hbv.mp e) this)
theorem k_opp {d : Nat} {hp : amH} {R : xQ} {q u : Int32} (hH : bHk 84 bTT hp) {m Q : Nat} {A : Nat → Nat × Nat × Nat} {I : Nat → Nat} (hq : Qr hp Q I) (hI : ∀ x, x < 4 → I x < m) (m35 : m ≤ 35) (hm : ∀ k, k < m → rN hp 75 k = (mk A k : Int)) (hl : ∀ k, k < m → mk A k < 32768) (eq : q.toInt = (Q : Int)) (Q200 : Q < 200) {P : Fin 6 → Nat} {U t0 : Nat} (h6 : SixP (fun x => A (I x)) P) (hb : ∀ x, x < 4 → ∀ w, (mk A (I x)).testBit w = true ↔ me (fun x => A (I x)) x w) (hu : u.toInt = (U : Int)) (U15 : U < 15) (ht0 : t0 < 4) (hme : me (fun x => A (I x)) t0 U) (n15 : opp P U < 15) (hR : ∀ z : Int32, z.toInt = (opp P U : Int) → R (.inl (some (.int z))) hp) : xK (d + 1) 219 [.ref 66, .int q, .int u] hp R := by
  refine xin (M := am_m219) rfl rfl rfl ?_
  refine xald 1 ⟨u219, _, rfl⟩ rfl rfl ?_
  refine xild 2 ⟨u219, _, rfl⟩ rfl rfl ?_
  refine xcall 5 [.ref 66, .int _] [] hH ⟨u219, _, rfl⟩ rfl rfl rfl rfl rfl (k_qp hH hq hI m35 hm hl eq Q200 (fun z2 h2 g2 => ⟨_, rfl, ?_⟩))
  refine xcst 6 (1) ⟨u219, _, rfl⟩ rfl (by decide) (fun z5 h5 => ?_)
  refine xild 7 ⟨u219, _, rfl⟩ rfl rfl ?_
  refine xshl 8 ⟨u219, _, rfl⟩ rfl ?_
  refine xcst 9 (-1) ⟨u219, _, rfl⟩ rfl (by decide) (fun z8 h8 => ?_)
  refine xxor 10 ⟨u219, _, rfl⟩ rfl ?_
  refine xand 11 ⟨u219, _, rfl⟩ rfl ?_
  refine xist 12 ⟨u219, _, rfl⟩ rfl rfl ?_
  refine xcst 13 (0) ⟨u219, _, rfl⟩ rfl (by decide) (fun z12 h12 => ?_)
  refine xist2 15 ⟨u219, _, rfl⟩ rfl rfl ?_
  refine xpad 1 ?_
  exact l219 hH hq hI m35 hm hl eq Q200 h6 hb hu U15 ht0 hme n15 hR 4 (ad (mk A (I 0) ||| mk A (I 1) ||| mk A (I 2) ||| mk A (I 3)) (2 ^ U)) 0 _ _ _ (by omega) (by omega) (i_ad h2 (i_shl h5 hu U15).1 g2 h8) (ad_lt g2) (by omega) (fun v => by
    rw [ad_bit g2, Bool.and_eq_true, or4_bit, Bool.or_eq_true, Bool.or_eq_true, Bool.or_eq_true, hb 0 (by omega), hb 1 (by omega), hb 2 (by omega), hb 3 (by omega), Nat.testBit_two_pow, Bool.not_eq_true', decide_eq_false_iff_not]
    refine ⟨fun ⟨g1, g2⟩ => ⟨?_, fun z => g2 z.symm, fun s hs => by omega⟩, fun ⟨⟨s, s1, s2⟩, g2, _⟩ => ⟨?_, fun z => g2 z.symm⟩⟩
    · rcases g1 with ((g1 | g1) | g1) | g1
      · exact ⟨0, by omega, g1⟩
      · exact ⟨1, by omega, g1⟩
      · exact ⟨2, by omega, g1⟩
      · exact ⟨3, by omega, g1⟩
    · have : s = 0 ∨ s = 1 ∨ s = 2 ∨ s = 3 := by omega
      rcases this with rfl | rfl | rfl | rfl
      · exact Or.inl (Or.inl (Or.inl s2))
      · exact Or.inl (Or.inl (Or.inr s2))
      · exact Or.inl (Or.inr s2)
      · exact Or.inr s2)
