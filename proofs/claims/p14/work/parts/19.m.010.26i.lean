/-! ##### 19.m.010.26i ##### -/
section
/-! ===== the class reads its points ===== -/
theorem u78 : bUp 0 am_m78.1 = true := by decide +kernel
theorem u79 : bUp 0 am_m79.1 = true := by decide +kernel
theorem u77 : bUp 0 am_m77.1 = true := by decide +kernel
/-- what reading writes -/
noncomputable def pFr (hp hp1 : amH) : Prop := ∀ c k, ¬ ((c = 1 ∧ ¬ k = 0 ∧ ¬ k = 3) ∨ c = 8 ∨ c = 9 ∨ c = 11) → bFld hp1 c k = bFld hp c k
theorem pFr.refl {hp : amH} : pFr hp hp := fun _ _ _ => rfl
theorem pFr.trans {a b c : amH} (h1 : pFr a b) (h2 : pFr b c) : pFr a c := fun i k e => (h2 i k e).trans (h1 i k e)
theorem pFr_t {hp hp1 : amH} (F : bFr wCt hp hp1) : pFr hp hp1 := fun c k e => F c k (by
  by_cases h : c = 1
  · subst h
    have : k = 0 ∨ k = 3 := by omega
    rcases this with rfl | rfl <;> rfl
  · simp [bIn, wCt, show Nat.beq 1 c = false from by cases e : Nat.beq 1 c; rfl; exact absurd (Nat.eq_of_beq_eq_true e).symm h])
theorem pFr_f {hp hp1 : amH} (F : bFr wCf hp hp1) : pFr hp hp1 := fun c k e => F c k (by
  by_cases h : c = 1
  · subst h
    have : k = 0 ∨ k = 3 := by omega
    rcases this with rfl | rfl <;> rfl
  · simp [bIn, wCf, show Nat.beq 1 c = false from by cases e : Nat.beq 1 c; rfl; exact absurd (Nat.eq_of_beq_eq_true e).symm h])
theorem pFr_x {W : List Nat} {hp hp1 : amH} (F : bFx W hp hp1) (h : ∀ c ∈ W, c = 8 ∨ c = 9 ∨ c = 11) : pFr hp hp1 := fun c k e => F c k (fun z => e (Or.inr (h c z)))
theorem p_n {hp hp1 : amH} (F : pFr hp hp1) {c i : Nat} (h : ¬ ((c = 1 ∧ ¬ i = 0 ∧ ¬ i = 3) ∨ c = 8 ∨ c = 9 ∨ c = 11)) : rN hp1 c i = rN hp c i := rN_eq (F c i h)
theorem cB_p {hp hp1 : amH} (F : pFr hp hp1) : cB hp1 = cB hp := by
  funext k
  unfold cB
  rw [p_n F (by omega), p_n F (by omega)]
theorem tNum_1 {y : tY} {s : Nat} {lo hi : Int} {pre : List Int} (h : ¬ ckK y s = 2) : tNum y s lo hi pre = 1 := by
  unfold tNum
  rw [if_pos (fun z => h (ckK_2.mpr z))]
theorem tNum_2 {y : tY} {s : Nat} {lo hi : Int} {pre : List Int} (h : ckK y s = 2) (h2 : tV y s < lo ∨ hi < tV y s ∨ tV y s ∈ pre) : tNum y s lo hi pre = 2 := by
  unfold tNum
  rw [if_neg (fun z => z (ckK_2.mp h))]
  by_cases g : tV y s < lo ∨ hi < tV y s
  · rw [if_pos g]
  · rw [if_neg g, if_pos (by
      rcases h2 with z | z | z
      · exact absurd (Or.inl z) g
      · exact absurd (Or.inr z) g
      · exact z)]
theorem tNum_0 {y : tY} {s : Nat} {lo hi : Int} {pre : List Int} (h : ckK y s = 2) (h1 : lo ≤ tV y s) (h2 : tV y s ≤ hi) (h3 : ¬ tV y s ∈ pre) : tNum y s lo hi pre = 0 := by
  unfold tNum
  rw [if_neg (fun z => z (ckK_2.mp h)), if_neg (by omega), if_neg h3]
noncomputable def rPt (y : tY) (s : Nat) (z : Int) (hp hp1 : amH) : Prop := match tPt y s with
  | .inl e => z = 0 ∧ rN hp1 1 1 = e.1 ∧ rN hp1 1 2 = (e.2 : Int)
  | .inr V => z = 1 ∧ 3 ≤ V ∧ V ≤ 15 ∧ bdOk hp1 8 V sE ∧ cT hp1 y (tN y (tN y (tN y s))) ∧ rN hp1 1 1 = rN hp 1 1 ∧ rN hp1 1 2 = rN hp 1 2
theorem rPt_e {y : tY} {s : Nat} {z : Int} {hp hp1 : amH} {c : Int} {q : Nat} (e : tPt y s = .inl (c, q)) (hz : z = 0) (h1 : rN hp1 1 1 = c) (h2 : rN hp1 1 2 = (q : Int)) : rPt y s z hp hp1 := by
  unfold rPt
  rw [e]
  exact ⟨hz, h1, h2⟩
theorem k_rdp {d : Nat} {hp : amH} {R : xQ} {y : tY} {s : Nat} (hH : bHk 84 bTT hp) (Y : cB hp = y) (T : cT hp y s) (hs : (s : Int) ≤ rN hp 1 0)
    (hR : ∀ (z : Int32) hp1, bHk 84 bTT hp1 → pFr hp hp1 → rPt y s z.toInt hp hp1 → R (.inl (some (.int z))) hp1) : xK (d + 3) 78 [.ref 1, .ref 8] hp R := by
  have hok : tOk (rN hp 1 0).toNat y := by rw [← Y]; exact cB_ok hH
  have b0 := b1_0 hH
  have w1 := tE_le hok (s := s) (by omega)
  have w2 := tN_le hok (s := s) (by omega)
  have w3 := tE_le hok (s := tN y s) (by omega)
  have w4 := tN_le hok (s := tN y s) (by omega)
  have w5 := tE_le hok (s := tN y (tN y s)) (by omega)
  refine xin (M := am_m78) rfl rfl rfl ?_
  have G := @pFr.refl hp
  have N : rN hp 1 0 = rN hp 1 0 := rfl
  refine xald 1 ⟨u78, _, rfl⟩ rfl rfl ?_
  refine xldcW 3 ⟨u78, _, rfl⟩ rfl ?_
  refine xcallC 6 (o := 1) [.ref 1000000] [] hH ⟨u78, _, rfl⟩ rfl rfl (by decide) rfl (by decide) rfl ⟨rfl, rfl, rfl, rfl⟩ rfl (k_cw (l := wPts) rfl ⟨rfl, by decide⟩ hH Y T (by omega) (fun z3 h3 => ⟨_, rfl, ?_⟩))
  refine xif_ne 9 ⟨u78, _, rfl⟩ rfl (fun c6 => ?_) (fun c6 => ?_)
  · have wT : ¬ ¬ tWd y s wPts = true := by rcases h3 with g | g; exact fun z => z g.2; omega
    refine xald 16 ⟨u78, _, rfl⟩ rfl rfl ?_
    refine xcallC 19 (o := 1) [] [] hH ⟨u78, _, rfl⟩ rfl rfl (by decide) rfl (by decide) rfl ⟨rfl, rfl, rfl, rfl⟩ rfl (k_cadv hH Y (p := tE y (s)) T.2.1 (by rw [N]; omega) (fun hp16 hH16 F16 Y16 T16 => ⟨_, rfl, ?_⟩))
    have T16 : cT hp16 y (tN y (s)) := T16
    have K16 : rN hp16 1 5 = ckK y (tN y (s)) := T16.2.2.1
    have G16 := G.trans (pFr_t F16)
    have N16 : rN hp16 1 0 = rN hp 1 0 := p_n G16 (by omega)
    refine xald 20 ⟨u78, _, rfl⟩ rfl rfl ?_
    refine xgetC 23 hH16 ⟨u78, _, rfl⟩ rfl (by decide) (by decide) rfl rfl (by decide) (fun z20 h20 => ?_)
    refine xcst 24 (2) ⟨u78, _, rfl⟩ rfl (by decide) (fun z23 h23 => ?_)
    refine xcmp_eq 27 ⟨u78, _, rfl⟩ rfl (fun c24 => ?_) (fun c24 => ?_)
    · have k2 : ckK y (tN y s) = 2 := by omega
      have v7 : rN hp16 1 7 = tV y (tN y s) := T16.2.2.2 (ckK_2.mp k2).1 (ckK_2.mp k2).2
      refine xald 34 ⟨u78, _, rfl⟩ rfl rfl ?_
      refine xgetC 37 hH16 ⟨u78, _, rfl⟩ rfl (by decide) (by decide) rfl rfl (by decide) (fun z34 h34 => ?_)
      refine xcst 38 (3) ⟨u78, _, rfl⟩ rfl (by decide) (fun z37 h37 => ?_)
      refine xcmp_lt 41 ⟨u78, _, rfl⟩ rfl (fun c38 => ?_) (fun c38 => ?_)
      · refine xald 51 ⟨u78, _, rfl⟩ rfl rfl ?_
        refine xcst 52 (2) ⟨u78, _, rfl⟩ rfl (by decide) (fun z51 h51 => ?_)
        refine xcallC 55 (o := 1) [.int _] [] hH16 ⟨u78, _, rfl⟩ rfl rfl (by decide) rfl (by decide) rfl ⟨rfl, rfl, rfl, rfl⟩ rfl (k_cf hH16 (fun z52 hp52 Z52 hH52 F52 A52 B52 => ⟨_, rfl, ?_⟩))
        have G52 := G16.trans (pFr_f F52)
        exact xretB ⟨u78, _, rfl⟩ rfl (by omega) (hR _ hp52 hH52 G52 (rPt_e (by unfold tPt; rw [if_neg wT, if_pos (by rw [tNum_2 k2 (by omega)]; decide), tNum_2 k2 (by omega)]) (by omega) (by omega) (by rw [B52]; exact T16.1)))
      · refine xald 42 ⟨u78, _, rfl⟩ rfl rfl ?_
        refine xgetC 45 hH16 ⟨u78, _, rfl⟩ rfl (by decide) (by decide) rfl rfl (by decide) (fun z42 h42 => ?_)
        refine xbip 47 (15) ⟨u78, _, rfl⟩ rfl (by decide) (fun z45 h45 => ?_)
        refine xcmp_le 50 ⟨u78, _, rfl⟩ rfl (fun c47 => ?_) (fun c47 => ?_)
        · have n0 : tNum y (tN y s) 3 15 [] = 0 := tNum_0 k2 (by omega) (by omega) (by simp)
          refine xald 57 ⟨u78, _, rfl⟩ rfl rfl ?_
          refine xald 58 ⟨u78, _, rfl⟩ rfl rfl ?_
          refine xgetC 61 hH16 ⟨u78, _, rfl⟩ rfl (by decide) (by decide) rfl rfl (by decide) (fun z58 h58 => ?_)
          have v58 : z58.toInt = tV y (tN y s) := h58.trans v7
          refine xcallC 64 (o := 8) [.int _] [] hH16 ⟨u78, _, rfl⟩ rfl rfl (by decide) rfl (by decide) rfl ⟨rfl, rfl, rfl, rfl⟩ rfl (k_rst (o := 8) (Or.inr rfl) (V := z58.toInt.toNat) hH16 (by omega) (by omega) (by omega) (fun hp61 hH61 F61 B61 S61 => ⟨_, rfl, ?_⟩))
          have G61 := G16.trans (pFr_x F61 (by simp))
          refine xald 65 ⟨u78, _, rfl⟩ rfl rfl ?_
          refine xcallC 68 (o := 1) [] [] hH61 ⟨u78, _, rfl⟩ rfl rfl (by decide) rfl (by decide) rfl ⟨rfl, rfl, rfl, rfl⟩ rfl (k_cadv hH61 (by rw [cB_p (pFr_x F61 (by simp)), Y16]) (p := tE y (tN y s)) (by rw [bFx_n F61 (by simp)]; exact T16.2.1) (by rw [bFx_n F61 (by simp), N16]; omega) (fun hp65 hH65 F65 Y65 T65 => ⟨_, rfl, ?_⟩))
          have T65 : cT hp65 y (tN y (tN y s)) := T65
          have K65 : rN hp65 1 5 = ckK y (tN y (tN y s)) := T65.2.2.1
          have G65 := G61.trans (pFr_t F65)
          have N65 : rN hp65 1 0 = rN hp 1 0 := p_n G65 (by omega)
          have B65 : bdOk hp65 8 z58.toInt.toNat sE := bdOk_fr B61 (r_fr F65 rfl) (fun i => r_fr F65 rfl) (fun i => r_fr F65 rfl)
          refine xald 69 ⟨u78, _, rfl⟩ rfl rfl ?_
          refine xgetC 72 hH65 ⟨u78, _, rfl⟩ rfl (by decide) (by decide) rfl rfl (by decide) (fun z69 h69 => ?_)
          refine xcst 73 (3) ⟨u78, _, rfl⟩ rfl (by decide) (fun z72 h72 => ?_)
          refine xcmp_eq 76 ⟨u78, _, rfl⟩ rfl (fun c73 => ?_) (fun c73 => ?_)
          · refine xald 83 ⟨u78, _, rfl⟩ rfl rfl ?_
            refine xcallC 86 (o := 1) [] [] hH65 ⟨u78, _, rfl⟩ rfl rfl (by decide) rfl (by decide) rfl ⟨rfl, rfl, rfl, rfl⟩ rfl (k_cadv hH65 Y65 (p := tE y (tN y (tN y s))) T65.2.1 (by rw [N65]; omega) (fun hp83 hH83 F83 Y83 T83 => ⟨_, rfl, ?_⟩))
            have G83 := G65.trans (pFr_t F83)
            have B83 : bdOk hp83 8 z58.toInt.toNat sE := bdOk_fr B65 (r_fr F83 rfl) (fun i => r_fr F83 rfl) (fun i => r_fr F83 rfl)
            refine xcst 87 (1) ⟨u78, _, rfl⟩ rfl (by decide) (fun z86 h86 => ?_)
            exact xretB ⟨u78, _, rfl⟩ rfl (by omega) (hR _ hp83 hH83 G83 (by unfold rPt; rw [show tPt y s = .inr z58.toInt.toNat by unfold tPt; rw [if_neg wT, if_neg (by rw [n0]; decide), if_neg (fun z => z (ckK_3.mp (by omega))), ← v58]]; exact ⟨by omega, by omega, by omega, B83, T83, by rw [show rN hp83 1 1 = rN hp65 1 1 from r_fr F83 rfl, show rN hp65 1 1 = rN hp61 1 1 from r_fr F65 rfl, bFx_n F61 (by simp), show rN hp16 1 1 = rN hp 1 1 from r_fr F16 rfl], by rw [show rN hp83 1 2 = rN hp65 1 2 from r_fr F83 rfl, show rN hp65 1 2 = rN hp61 1 2 from r_fr F65 rfl, bFx_n F61 (by simp), show rN hp16 1 2 = rN hp 1 2 from r_fr F16 rfl]⟩))
          · refine xald 77 ⟨u78, _, rfl⟩ rfl rfl ?_
            refine xcst 78 (1) ⟨u78, _, rfl⟩ rfl (by decide) (fun z77 h77 => ?_)
            refine xcallC 81 (o := 1) [.int _] [] hH65 ⟨u78, _, rfl⟩ rfl rfl (by decide) rfl (by decide) rfl ⟨rfl, rfl, rfl, rfl⟩ rfl (k_cf hH65 (fun z78 hp78 Z78 hH78 F78 A78 B78 => ⟨_, rfl, ?_⟩))
            have G78 := G65.trans (pFr_f F78)
            exact xretB ⟨u78, _, rfl⟩ rfl (by omega) (hR _ hp78 hH78 G78 (rPt_e (by unfold tPt; rw [if_neg wT, if_neg (by rw [n0]; decide), if_pos (fun z => c73 (by rw [← ckK_3] at z; omega))]) (by omega) (by omega) (by rw [B78]; exact T65.1)))
        · refine xald 51 ⟨u78, _, rfl⟩ rfl rfl ?_
          refine xcst 52 (2) ⟨u78, _, rfl⟩ rfl (by decide) (fun z51 h51 => ?_)
          refine xcallC 55 (o := 1) [.int _] [] hH16 ⟨u78, _, rfl⟩ rfl rfl (by decide) rfl (by decide) rfl ⟨rfl, rfl, rfl, rfl⟩ rfl (k_cf hH16 (fun z52 hp52 Z52 hH52 F52 A52 B52 => ⟨_, rfl, ?_⟩))
          have G52 := G16.trans (pFr_f F52)
          exact xretB ⟨u78, _, rfl⟩ rfl (by omega) (hR _ hp52 hH52 G52 (rPt_e (by unfold tPt; rw [if_neg wT, if_pos (by rw [tNum_2 k2 (by omega)]; decide), tNum_2 k2 (by omega)]) (by omega) (by omega) (by rw [B52]; exact T16.1)))
    · refine xald 28 ⟨u78, _, rfl⟩ rfl rfl ?_
      refine xcst 29 (1) ⟨u78, _, rfl⟩ rfl (by decide) (fun z28 h28 => ?_)
      refine xcallC 32 (o := 1) [.int _] [] hH16 ⟨u78, _, rfl⟩ rfl rfl (by decide) rfl (by decide) rfl ⟨rfl, rfl, rfl, rfl⟩ rfl (k_cf hH16 (fun z29 hp29 Z29 hH29 F29 A29 B29 => ⟨_, rfl, ?_⟩))
      have G29 := G16.trans (pFr_f F29)
      exact xretB ⟨u78, _, rfl⟩ rfl (by omega) (hR _ hp29 hH29 G29 (rPt_e (by unfold tPt; rw [if_neg wT, if_pos (by rw [tNum_1 (by omega)]; decide), tNum_1 (by omega)]) (by omega) (by omega) (by rw [B29]; exact T16.1)))
  · refine xald 10 ⟨u78, _, rfl⟩ rfl rfl ?_
    refine xcst 11 (1) ⟨u78, _, rfl⟩ rfl (by decide) (fun z10 h10 => ?_)
    refine xcallC 14 (o := 1) [.int _] [] hH ⟨u78, _, rfl⟩ rfl rfl (by decide) rfl (by decide) rfl ⟨rfl, rfl, rfl, rfl⟩ rfl (k_cf hH (fun z11 hp11 Z11 hH11 F11 A11 B11 => ⟨_, rfl, ?_⟩))
    have G11 := G.trans (pFr_f F11)
    exact xretB ⟨u78, _, rfl⟩ rfl (by omega) (hR _ hp11 hH11 G11 (rPt_e (by unfold tPt; rw [if_pos (by rcases h3 with g | g; omega; rw [g.2]; decide)]) (by omega) (by omega) (by rw [B11]; exact T.1)))
end
/-! ##### 19.m.011.26j ##### -/
section
/-! ===== the class reads a statement ===== -/
/-- one point of a statement -/
theorem l79 {d : Nat} {hp : amH} {R : xQ} {y : tY} {s V m kk : Nat} {T : sT} {pre : List Int} {dv w k : Int32} (hH : bHk 84 bTT hp) (Y : cB hp = y) (hT : cT hp y s) (hs : (s : Int) ≤ rN hp 1 0) (hB : bdOk hp 8 V T) (hw : w.toInt = (m : Int)) (hm : m < 32768) (hpre : ∀ i, i < 15 → m.testBit i = decide ((i : Int) ∈ pre)) (hk : k.toInt = (kk : Int)) (hk3 : kk < 3)
    (hE : ∀ (z : Int32) hp1, ¬ tNum y s 0 ((V : Int) - 1) pre = 0 → z.toInt = 0 → bHk 84 bTT hp1 → pFr hp hp1 → rN hp1 1 1 = tNum y s 0 ((V : Int) - 1) pre → rN hp1 1 2 = (s : Int) → R (.inl (some (.int z))) hp1)
    (hN : ∀ (w1 k1 : Int32) hp1, tNum y s 0 ((V : Int) - 1) pre = 0 → 0 ≤ tV y s → tV y s < (V : Int) → ¬ tV y s ∈ pre → bHk 84 bTT hp1 → pFr hp hp1 → cB hp1 = y → cT hp1 y (tN y s) → bdOk hp1 8 V T → w1.toInt = ((m ||| 2 ^ (tV y s).toNat : Nat) : Int) → m ||| 2 ^ (tV y s).toNat < 32768 → k1.toInt = (kk : Int) + 1 → rN hp1 1 1 = rN hp 1 1 → rN hp1 1 2 = rN hp 1 2 → xV (d + 4) am_m79 35 [some (.ref 1), some (.ref 8), some (.int dv), some (.int w1), some (.int k1)] [] hp1 R) :
    xV (d + 4) am_m79 35 [some (.ref 1), some (.ref 8), some (.int dv), some (.int w), some (.int k)] [] hp R := by
  have hok : tOk (rN hp 1 0).toNat y := by rw [← Y]; exact cB_ok hH
  have b0 := b1_0 hH
  have w1 := tE_le hok (s := s) (by omega)
  have bV := hB.2.1.2.1
  have bP := hB.1
  have K0 := hT.2.2.1
  have hTs := hT.1
  refine xild2 37 ⟨u79, _, rfl⟩ rfl rfl ?_
  refine xcst 38 (3) ⟨u79, _, rfl⟩ rfl (by decide) (fun z37 h37 => ?_)
  refine xcmp_ge 41 ⟨u79, _, rfl⟩ rfl (fun c38 => ?_) (fun c38 => ?_)
  · omega
  · refine xald 42 ⟨u79, _, rfl⟩ rfl rfl ?_
    refine xgetC 45 hH ⟨u79, _, rfl⟩ rfl (by decide) (by decide) rfl rfl (by decide) (fun z42 h42 => ?_)
    refine xcst 46 (2) ⟨u79, _, rfl⟩ rfl (by decide) (fun z45 h45 => ?_)
    refine xcmp_eq 49 ⟨u79, _, rfl⟩ rfl (fun c46 => ?_) (fun c46 => ?_)
    · have k2 : ckK y s = 2 := by omega
      have v7 : rN hp 1 7 = tV y s := hT.2.2.2 (ckK_2.mp k2).1 (ckK_2.mp k2).2
      refine xald 56 ⟨u79, _, rfl⟩ rfl rfl ?_
      refine xald 57 ⟨u79, _, rfl⟩ rfl rfl ?_
      refine xgetC 60 hH ⟨u79, _, rfl⟩ rfl (by decide) (by decide) rfl rfl (by decide) (fun z57 h57 => ?_)
      refine xcallC 63 (o := 8) [.int _] [] hH ⟨u79, _, rfl⟩ rfl rfl (by decide) rfl (by decide) rfl ⟨rfl, rfl, rfl, rfl⟩ rfl (k_isp (o := 8) (Or.inr rfl) hH (fun z60 h60 => ⟨_, rfl, ?_⟩))
      refine xif_eq 66 ⟨u79, _, rfl⟩ rfl (fun c63 => ?_) (fun c63 => ?_)
      · refine xald 78 ⟨u79, _, rfl⟩ rfl rfl ?_
        refine xcst 79 (2) ⟨u79, _, rfl⟩ rfl (by decide) (fun z78 h78 => ?_)
        refine xcallC 82 (o := 1) [.int _] [] hH ⟨u79, _, rfl⟩ rfl rfl (by decide) rfl (by decide) rfl ⟨rfl, rfl, rfl, rfl⟩ rfl (k_cf hH (fun z79 hp79 Z79 hH79 F79 A79 B79 => ⟨_, rfl, ?_⟩))
        exact xretB ⟨u79, _, rfl⟩ rfl (by omega) (hE _ hp79 (by rw [tNum_2 k2 (by omega)]; decide) (by omega) hH79 (pFr_f F79) (by rw [tNum_2 k2 (by omega)]; omega) (by omega))
      · refine xild 67 ⟨u79, _, rfl⟩ rfl rfl ?_
        refine xald 68 ⟨u79, _, rfl⟩ rfl rfl ?_
        refine xgetC 71 hH ⟨u79, _, rfl⟩ rfl (by decide) (by decide) rfl rfl (by decide) (fun z68 h68 => ?_)
        refine xcallS 74 [.int _, .int _] [] hH ⟨u79, _, rfl⟩ rfl rfl rfl rfl rfl (k_has hw hm (n := (tV y s).toNat) (by omega) (by omega) (fun z71 h71 => ⟨_, rfl, ?_⟩))
        refine xif_eq 77 ⟨u79, _, rfl⟩ rfl (fun c74 => ?_) (fun c74 => ?_)
        · have nin : ¬ tV y s ∈ pre := fun z => by rw [hpre _ (by omega), show (((tV y s).toNat : Nat) : Int) = tV y s by omega, decide_eq_true z] at h71; simp at h71; omega
          refine xild 84 ⟨u79, _, rfl⟩ rfl rfl ?_
          refine xcst 85 (1) ⟨u79, _, rfl⟩ rfl (by decide) (fun z84 h84 => ?_)
          refine xald 86 ⟨u79, _, rfl⟩ rfl rfl ?_
          refine xgetC 89 hH ⟨u79, _, rfl⟩ rfl (by decide) (by decide) rfl rfl (by decide) (fun z86 h86 => ?_)
          refine xshl 90 ⟨u79, _, rfl⟩ rfl ?_
          refine xor_ 91 ⟨u79, _, rfl⟩ rfl ?_
          refine xist 92 ⟨u79, _, rfl⟩ rfl rfl ?_
          refine xald 93 ⟨u79, _, rfl⟩ rfl rfl ?_
          refine xcallC 96 (o := 1) [] [] hH ⟨u79, _, rfl⟩ rfl rfl (by decide) rfl (by decide) rfl ⟨rfl, rfl, rfl, rfl⟩ rfl (k_cadv hH Y (p := tE y s) hT.2.1 (by omega) (fun hp93 hH93 F93 Y93 T93 => ⟨_, rfl, ?_⟩))
          refine xinc 99 (1) ⟨u79, _, rfl⟩ rfl rfl rfl (by decide) (by omega) (by omega) (fun z96 h96 => ?_)
          refine xgoto ⟨u79, _, rfl⟩ ?_
          have w91 := i_or hw (i_shl h84 (show z86.toInt = (((tV y s).toNat : Nat) : Int) by omega) (by omega)).1 hm (i_shl h84 (show z86.toInt = (((tV y s).toNat : Nat) : Int) by omega) (by omega)).2
          exact hN _ _ hp93 (tNum_0 k2 (by omega) (by omega) nin) (by omega) (by omega) nin hH93 (pFr_t F93) Y93 T93 (bdOk_fr hB (r_fr F93 rfl) (fun i => r_fr F93 rfl) (fun i => r_fr F93 rfl)) w91.1 w91.2 (by omega) (r_fr F93 rfl) (r_fr F93 rfl)
        · refine xald 78 ⟨u79, _, rfl⟩ rfl rfl ?_
          refine xcst 79 (2) ⟨u79, _, rfl⟩ rfl (by decide) (fun z78 h78 => ?_)
          refine xcallC 82 (o := 1) [.int _] [] hH ⟨u79, _, rfl⟩ rfl rfl (by decide) rfl (by decide) rfl ⟨rfl, rfl, rfl, rfl⟩ rfl (k_cf hH (fun z79 hp79 Z79 hH79 F79 A79 B79 => ⟨_, rfl, ?_⟩))
          exact xretB ⟨u79, _, rfl⟩ rfl (by omega) (hE _ hp79 (by rw [tNum_2 k2 (Or.inr (Or.inr (by rw [hpre _ (by omega), show (((tV y s).toNat : Nat) : Int) = tV y s by omega] at h71; by_cases g : tV y s ∈ pre; exact g; rw [decide_eq_false g] at h71; simp at h71; omega)))]; decide) (by omega) hH79 (pFr_f F79) (by rw [tNum_2 k2 (Or.inr (Or.inr (by rw [hpre _ (by omega), show (((tV y s).toNat : Nat) : Int) = tV y s by omega] at h71; by_cases g : tV y s ∈ pre; exact g; rw [decide_eq_false g] at h71; simp at h71; omega)))]; omega) (by omega))
    · refine xald 50 ⟨u79, _, rfl⟩ rfl rfl ?_
      refine xcst 51 (1) ⟨u79, _, rfl⟩ rfl (by decide) (fun z50 h50 => ?_)
      refine xcallC 54 (o := 1) [.int _] [] hH ⟨u79, _, rfl⟩ rfl rfl (by decide) rfl (by decide) rfl ⟨rfl, rfl, rfl, rfl⟩ rfl (k_cf hH (fun z51 hp51 Z51 hH51 F51 A51 B51 => ⟨_, rfl, ?_⟩))
      exact xretB ⟨u79, _, rfl⟩ rfl (by omega) (hE _ hp51 (by rw [tNum_1 (by omega)]; decide) (by omega) hH51 (pFr_f F51) (by rw [tNum_1 (by omega)]; omega) (by omega))
noncomputable def rSt (y : tY) (V : Nat) (T : sT) (s : Nat) (z : Int) (hp hp1 : amH) : Prop := match tSt y V T s with
  | .inl e => z = 0 ∧ rN hp1 1 1 = e.1 ∧ rN hp1 1 2 = (e.2 : Int)
  | .inr q => z = 1 ∧ bdOk hp1 8 V q.1 ∧ cT hp1 y q.2 ∧ rN hp1 1 1 = rN hp 1 1 ∧ rN hp1 1 2 = rN hp 1 2
theorem rSt_e {y : tY} {V : Nat} {T : sT} {s : Nat} {z : Int} {hp hp1 : amH} {c : Int} {q : Nat} (e : tSt y V T s = .inl (c, q)) (hz : z = 0) (h1 : rN hp1 1 1 = c) (h2 : rN hp1 1 2 = (q : Int)) : rSt y V T s z hp hp1 := by
  unfold rSt
  rw [e]
  exact ⟨hz, h1, h2⟩
theorem rSt_s {y : tY} {V : Nat} {T : sT} {s : Nat} {z : Int} {hp hp1 : amH} {T1 : sT} {q : Nat} (e : tSt y V T s = .inr (T1, q)) (hz : z = 1) (h1 : bdOk hp1 8 V T1) (h2 : cT hp1 y q) (h3 : rN hp1 1 1 = rN hp 1 1) (h4 : rN hp1 1 2 = rN hp 1 2) : rSt y V T s z hp hp1 := by
  unfold rSt
  rw [e]
  exact ⟨hz, h1, h2, h3, h4⟩
/-- the three points of a statement, read -/
noncomputable def tGo (y : tY) (V s : Nat) : Prop := (tWd y s wDev = true ∨ tWd y s wTri = true) ∧ tNum y (tN y s) 0 ((V : Int) - 1) [] = 0 ∧ tNum y (tN y (tN y s)) 0 ((V : Int) - 1) [tV y (tN y s)] = 0 ∧ tNum y (tN y (tN y (tN y s))) 0 ((V : Int) - 1) [tV y (tN y s), tV y (tN y (tN y s))] = 0
theorem tSt_go {y : tY} {V s : Nat} {T : sT} (h : tGo y V s) : tSt y V T s = if ¬ tK y (tN y (tN y (tN y (tN y s)))) = 3 then .inl (1, tN y (tN y (tN y (tN y s)))) else
  if ¬ sFree T (tV y (tN y s)).toNat (tV y (tN y (tN y s))).toNat (tV y (tN y (tN y (tN y s)))).toNat then .inl (3, tN y (tN y (tN y (tN y s)))) else
  if tWd y s wTri then .inr (sPut T (tV y (tN y s)).toNat (tV y (tN y (tN y s))).toNat (tV y (tN y (tN y (tN y s)))).toNat, tN y (tN y (tN y (tN y (tN y s))))) else
  match sDv V (tV y (tN y s)).toNat (tV y (tN y (tN y s))).toNat (tV y (tN y (tN y (tN y s)))).toNat V 0 T 0 with
  | none => .inl (3, tN y (tN y (tN y (tN y s))))
  | some q => .inr (q.1, tN y (tN y (tN y (tN y (tN y s))))) := by
  obtain ⟨h1, h2, h3, h4⟩ := h
  unfold tSt
  rw [if_neg (fun z => z h1), if_neg (fun z => z h2), if_neg (fun z => z h3), if_neg (fun z => z h4)]
  rfl
/-- two words at one place -/
theorem tWd_ne {y : tY} {s : Nat} (h : tWd y s wDev = true) (h2 : tWd y s wTri = true) : False := by
  have a := (of_decide_eq_true h).2.2 0 (by decide)
  have b := (of_decide_eq_true h2).2.2 0 (by decide)
  rw [a] at b
  exact absurd b (by decide)
/-- behind the three points -/
theorem e79 {d : Nat} {hp0 hp : amH} {R : xQ} {y : tY} {s V : Nat} {T : sT} {dv w k : Int32} {v1 v2 v3 : Nat} (hH : bHk 84 bTT hp) (hF : pFr hp0 hp) (hk1 : rN hp 1 1 = rN hp0 1 1) (hk2 : rN hp 1 2 = rN hp0 1 2) (Y : cB hp = y) (hT : cT hp y (tN y (tN y (tN y (tN y s))))) (hs : ((tN y (tN y (tN y (tN y s))) : Nat) : Int) ≤ rN hp 1 0) (hB : bdOk hp 8 V T) (hg : tGo y V s) (e1 : tV y (tN y s) = (v1 : Int)) (e2 : tV y (tN y (tN y s)) = (v2 : Int)) (e3 : tV y (tN y (tN y (tN y s))) = (v3 : Int)) (l1 : v1 < V) (l2 : v2 < V) (l3 : v3 < V) (n12 : ¬ v1 = v2) (n23 : ¬ v2 = v3) (n13 : ¬ v1 = v3)
    (hw : w.toInt = ((m3 v1 v2 v3 : Nat) : Int)) (hk : k.toInt = 3) (hdv : (dv.toInt = 1 ∧ tWd y s wDev = true) ∨ (dv.toInt = 0 ∧ tWd y s wTri = true))
    (hR : ∀ (z : Int32) hp1, bHk 84 bTT hp1 → pFr hp0 hp1 → rSt y V T s z.toInt hp0 hp1 → R (.inl (some (.int z))) hp1) :
    xV (d + 4) am_m79 35 [some (.ref 1), some (.ref 8), some (.int dv), some (.int w), some (.int k)] [] hp R := by
  have hok : tOk (rN hp 1 0).toNat y := by rw [← Y]; exact cB_ok hH
  have b0 := b1_0 hH
  have w1 := tE_le hok (s := tN y (tN y (tN y (tN y s)))) (by omega)
  have bV := hB.2.1.2.1
  have K0 := hT.2.2.1
  have hTs := hT.1
  have go := tSt_go (T := T) hg
  rw [e1, e2, e3, Int.toNat_natCast, Int.toNat_natCast, Int.toNat_natCast] at go
  refine xild2 37 ⟨u79, _, rfl⟩ rfl rfl ?_
  refine xcst 38 (3) ⟨u79, _, rfl⟩ rfl (by decide) (fun z37 h37 => ?_)
  refine xcmp_ge 41 ⟨u79, _, rfl⟩ rfl (fun c38 => ?_) (fun c38 => ?_)
  · refine xald 103 ⟨u79, _, rfl⟩ rfl rfl ?_
    refine xgetC 106 hH ⟨u79, _, rfl⟩ rfl (by decide) (by decide) rfl rfl (by decide) (fun z103 h103 => ?_)
    refine xcst 107 (3) ⟨u79, _, rfl⟩ rfl (by decide) (fun z106 h106 => ?_)
    refine xcmp_eq 110 ⟨u79, _, rfl⟩ rfl (fun c107 => ?_) (fun c107 => ?_)
    · have k3 : tK y (tN y (tN y (tN y (tN y s)))) = 3 := ckK_3.mp (by omega)
      rw [if_neg (fun z => z k3)] at go
      refine xald 117 ⟨u79, _, rfl⟩ rfl rfl ?_
      refine xild 118 ⟨u79, _, rfl⟩ rfl rfl ?_
      refine xcallC 121 (o := 8) [.int _] [] hH ⟨u79, _, rfl⟩ rfl rfl (by decide) rfl (by decide) rfl ⟨rfl, rfl, rfl, rfl⟩ rfl (k_takU (o := 8) (Or.inr rfl) hH hB hw l1 l2 l3 n12 n23 n13 (fun z118 h118 => ⟨_, rfl, ?_⟩))
      refine xif_eq 124 ⟨u79, _, rfl⟩ rfl (fun c121 => ?_) (fun c121 => ?_)
      · have fr : ¬ sFree T v1 v2 v3 := by rcases h118 with g | g; omega; exact g.2
        rw [if_pos fr] at go
        refine xald 138 ⟨u79, _, rfl⟩ rfl rfl ?_
        refine xcst 139 (3) ⟨u79, _, rfl⟩ rfl (by decide) (fun z138 h138 => ?_)
        refine xcallC 142 (o := 1) [.int _] [] hH ⟨u79, _, rfl⟩ rfl rfl (by decide) rfl (by decide) rfl ⟨rfl, rfl, rfl, rfl⟩ rfl (k_cf hH (fun z139 hp139 Z139 hH139 F139 A139 B139 => ⟨_, rfl, ?_⟩))
        exact xretB ⟨u79, _, rfl⟩ rfl (by omega) (hR _ hp139 hH139 (hF.trans (pFr_f F139)) (rSt_e go (by omega) (by omega) (by omega)))
      · have fr : sFree T v1 v2 v3 := by rcases h118 with g | g; exact g.2; omega
        rw [if_neg (fun z => z fr)] at go
        refine xild 125 ⟨u79, _, rfl⟩ rfl rfl ?_
        refine xif_eq 128 ⟨u79, _, rfl⟩ rfl (fun c125 => ?_) (fun c125 => ?_)
        · have wd : tWd y s wTri = true := by rcases hdv with g | g; omega; exact g.2
          rw [if_pos wd] at go
          refine xild 144 ⟨u79, _, rfl⟩ rfl rfl ?_
          refine xif_ne 147 ⟨u79, _, rfl⟩ rfl (fun c144 => ?_) (fun c144 => ?_)
          · omega
          · refine xald 148 ⟨u79, _, rfl⟩ rfl rfl ?_
            refine xild 149 ⟨u79, _, rfl⟩ rfl rfl ?_
            refine xcallC 152 (o := 8) [.int _] [] hH ⟨u79, _, rfl⟩ rfl rfl (by decide) rfl (by decide) rfl ⟨rfl, rfl, rfl, rfl⟩ rfl (k_bputU (o := 8) (Or.inr rfl) hH hB hw l1 l2 l3 n12 n23 n13 fr (fun hp149 hH149 F149 B149 => ⟨_, rfl, ?_⟩))
            refine xald 153 ⟨u79, _, rfl⟩ rfl rfl ?_
            refine xcallC 156 (o := 1) [] [] hH149 ⟨u79, _, rfl⟩ rfl rfl (by decide) rfl (by decide) rfl ⟨rfl, rfl, rfl, rfl⟩ rfl (k_cadv hH149 (by rw [cB_p (pFr_x F149 (by simp)), Y]) (p := tE y (tN y (tN y (tN y (tN y s))))) (by rw [bFx_n F149 (by simp)]; exact hT.2.1) (by rw [bFx_n F149 (by simp)]; omega) (fun hp153 hH153 F153 Y153 T153 => ⟨_, rfl, ?_⟩))
            refine xcst 157 (1) ⟨u79, _, rfl⟩ rfl (by decide) (fun z156 h156 => ?_)
            exact xretB ⟨u79, _, rfl⟩ rfl (by omega) (hR _ hp153 hH153 ((hF.trans (pFr_x F149 (by simp))).trans (pFr_t F153)) (rSt_s go (by omega) (bdOk_fr B149 (r_fr F153 rfl) (fun i => r_fr F153 rfl) (fun i => r_fr F153 rfl)) T153 (by rw [show rN hp153 1 1 = rN hp149 1 1 from r_fr F153 rfl, bFx_n F149 (by simp)]; exact hk1) (by rw [show rN hp153 1 2 = rN hp149 1 2 from r_fr F153 rfl, bFx_n F149 (by simp)]; exact hk2)))
        · have wd : tWd y s wDev = true := by rcases hdv with g | g; exact g.2; omega
          rw [if_neg (fun z => tWd_ne wd z)] at go
          refine xald 129 ⟨u79, _, rfl⟩ rfl rfl ?_
          refine xild 130 ⟨u79, _, rfl⟩ rfl rfl ?_
          refine xcallC 133 (o := 8) [.int _] [] hH ⟨u79, _, rfl⟩ rfl rfl (by decide) rfl (by decide) rfl ⟨rfl, rfl, rfl, rfl⟩ rfl (k_pat (o := 8) (Or.inr rfl) hH hB hw l1 l2 l3 n12 n23 n13 (fun z130 hp130 hH130 F130 h130 => ⟨_, rfl, ?_⟩))
          refine xcst 134 (-1) ⟨u79, _, rfl⟩ rfl (by decide) (fun z133 h133 => ?_)
          refine xcmp_ne 137 ⟨u79, _, rfl⟩ rfl (fun c134 => ?_) (fun c134 => ?_)
          · have hh : ∃ q, sDv V v1 v2 v3 V 0 T 0 = some q ∧ bdOk hp130 8 V q.1 := by cases e : sDv V v1 v2 v3 V 0 T 0 with
              | none => rw [e] at h130; omega
              | some q => rw [e] at h130; exact ⟨q, rfl, h130.2⟩
            obtain ⟨q, hq, B130⟩ := hh
            rw [hq] at go
            refine xild 144 ⟨u79, _, rfl⟩ rfl rfl ?_
            refine xif_ne 147 ⟨u79, _, rfl⟩ rfl (fun c144 => ?_) (fun c144 => ?_)
            · refine xald 153 ⟨u79, _, rfl⟩ rfl rfl ?_
              refine xcallC 156 (o := 1) [] [] hH130 ⟨u79, _, rfl⟩ rfl rfl (by decide) rfl (by decide) rfl ⟨rfl, rfl, rfl, rfl⟩ rfl (k_cadv hH130 (by rw [cB_p (pFr_x F130 (by simp)), Y]) (p := tE y (tN y (tN y (tN y (tN y s))))) (by rw [bFx_n F130 (by simp)]; exact hT.2.1) (by rw [bFx_n F130 (by simp)]; omega) (fun hp153 hH153 F153 Y153 T153 => ⟨_, rfl, ?_⟩))
              refine xcst 157 (1) ⟨u79, _, rfl⟩ rfl (by decide) (fun z156 h156 => ?_)
              exact xretB ⟨u79, _, rfl⟩ rfl (by omega) (hR _ hp153 hH153 ((hF.trans (pFr_x F130 (by simp))).trans (pFr_t F153)) (rSt_s go (by omega) (bdOk_fr B130 (r_fr F153 rfl) (fun i => r_fr F153 rfl) (fun i => r_fr F153 rfl)) T153 (by rw [show rN hp153 1 1 = rN hp130 1 1 from r_fr F153 rfl, bFx_n F130 (by simp)]; exact hk1) (by rw [show rN hp153 1 2 = rN hp130 1 2 from r_fr F153 rfl, bFx_n F130 (by simp)]; exact hk2)))
            · omega
          · have hh : sDv V v1 v2 v3 V 0 T 0 = none := by cases e : sDv V v1 v2 v3 V 0 T 0 with
              | none => rfl
              | some q => rw [e] at h130; omega
            rw [hh] at go
            refine xald 138 ⟨u79, _, rfl⟩ rfl rfl ?_
            refine xcst 139 (3) ⟨u79, _, rfl⟩ rfl (by decide) (fun z138 h138 => ?_)
            refine xcallC 142 (o := 1) [.int _] [] hH130 ⟨u79, _, rfl⟩ rfl rfl (by decide) rfl (by decide) rfl ⟨rfl, rfl, rfl, rfl⟩ rfl (k_cf hH130 (fun z139 hp139 Z139 hH139 F139 A139 B139 => ⟨_, rfl, ?_⟩))
            exact xretB ⟨u79, _, rfl⟩ rfl (by omega) (hR _ hp139 hH139 ((hF.trans (pFr_x F130 (by simp))).trans (pFr_f F139)) (rSt_e go (by omega) (by omega) (by rw [B139, bFx_n F130 (by simp)]; exact hTs)))
    · refine xald 111 ⟨u79, _, rfl⟩ rfl rfl ?_
      refine xcst 112 (1) ⟨u79, _, rfl⟩ rfl (by decide) (fun z111 h111 => ?_)
      refine xcallC 115 (o := 1) [.int _] [] hH ⟨u79, _, rfl⟩ rfl rfl (by decide) rfl (by decide) rfl ⟨rfl, rfl, rfl, rfl⟩ rfl (k_cf hH (fun z112 hp112 Z112 hH112 F112 A112 B112 => ⟨_, rfl, ?_⟩))
      exact xretB ⟨u79, _, rfl⟩ rfl (by omega) (hR _ hp112 hH112 (hF.trans (pFr_f F112)) (rSt_e (by rw [go, if_pos (fun z => c107 (by have := ckK_3.mpr z; omega))]) (by omega) (by omega) (by omega)))
  · omega
end
/-! ##### 19.m.012.26k ##### -/
section
/-! ===== the class reads its text ===== -/
theorem tSt_1 {y : tY} {V s : Nat} {T : sT} (h : ¬ (tWd y s wDev = true ∨ tWd y s wTri = true)) : tSt y V T s = .inl (1, s) := by
  unfold tSt
  rw [if_pos h]
theorem tSt_2 {y : tY} {V s : Nat} {T : sT} (h : tWd y s wDev = true ∨ tWd y s wTri = true) (h2 : ¬ tNum y (tN y s) 0 ((V : Int) - 1) [] = 0) : tSt y V T s = .inl (tNum y (tN y s) 0 ((V : Int) - 1) [], tN y s) := by
  unfold tSt
  rw [if_neg (fun z => z h), if_pos h2]
theorem tSt_3 {y : tY} {V s : Nat} {T : sT} (h : tWd y s wDev = true ∨ tWd y s wTri = true) (h2 : tNum y (tN y s) 0 ((V : Int) - 1) [] = 0) (h3 : ¬ tNum y (tN y (tN y s)) 0 ((V : Int) - 1) [tV y (tN y s)] = 0) : tSt y V T s = .inl (tNum y (tN y (tN y s)) 0 ((V : Int) - 1) [tV y (tN y s)], tN y (tN y s)) := by
  unfold tSt
  rw [if_neg (fun z => z h), if_neg (fun z => z h2), if_pos h3]
theorem tSt_4 {y : tY} {V s : Nat} {T : sT} (h : tWd y s wDev = true ∨ tWd y s wTri = true) (h2 : tNum y (tN y s) 0 ((V : Int) - 1) [] = 0) (h3 : tNum y (tN y (tN y s)) 0 ((V : Int) - 1) [tV y (tN y s)] = 0) (h4 : ¬ tNum y (tN y (tN y (tN y s))) 0 ((V : Int) - 1) [tV y (tN y s), tV y (tN y (tN y s))] = 0) : tSt y V T s = .inl (tNum y (tN y (tN y (tN y s))) 0 ((V : Int) - 1) [tV y (tN y s), tV y (tN y (tN y s))], tN y (tN y (tN y s))) := by
  unfold tSt
  rw [if_neg (fun z => z h), if_neg (fun z => z h2), if_neg (fun z => z h3), if_pos h4]
theorem rSt_h {y : tY} {V : Nat} {T : sT} {s : Nat} {z : Int} {hp hp0 hp1 : amH} (h : rSt y V T s z hp hp1) (e1 : rN hp 1 1 = rN hp0 1 1) (e2 : rN hp 1 2 = rN hp0 1 2) : rSt y V T s z hp0 hp1 := by
  unfold rSt at h ⊢
  rw [e1, e2] at h
  exact h
theorem pr_0 {m : Nat} (h : m = 0) : ∀ i, i < 15 → m.testBit i = decide ((i : Int) ∈ ([] : List Int)) := by
  intro i _
  subst h
  simp
theorem pr_or {m v : Nat} {pre pre2 : List Int} (hv : v < 15) (h : ∀ i, i < 15 → m.testBit i = decide ((i : Int) ∈ pre)) (h2 : ∀ i : Int, i ∈ pre2 ↔ (i ∈ pre ∨ i = (v : Int))) : ∀ i, i < 15 → (m ||| 2 ^ v).testBit i = decide ((i : Int) ∈ pre2) := by
  intro i hi
  rw [Nat.testBit_or, h i hi, p2_test]
  by_cases e : i = v
  · subst e
    simp [h2]
  · have : ¬ (i : Int) = (v : Int) := by omega
    simp [h2, e, this]
theorem t79 {d : Nat} {hp : amH} {R : xQ} {y : tY} {s V : Nat} {T : sT} {dv w k : Int32} (hH : bHk 84 bTT hp) (Y : cB hp = y) (hT : cT hp y (tN y s)) (hs : (s : Int) ≤ rN hp 1 0) (hB : bdOk hp 8 V T) (hw : w.toInt = 0) (hk : k.toInt = 0) (hwd : tWd y s wDev = true ∨ tWd y s wTri = true) (hdv : (dv.toInt = 1 ∧ tWd y s wDev = true) ∨ (dv.toInt = 0 ∧ tWd y s wTri = true))
    (hR : ∀ (z : Int32) hp1, bHk 84 bTT hp1 → pFr hp hp1 → rSt y V T s z.toInt hp hp1 → R (.inl (some (.int z))) hp1) :
    xV (d + 4) am_m79 35 [some (.ref 1), some (.ref 8), some (.int dv), some (.int w), some (.int k)] [] hp R := by
  have hok : tOk (rN hp 1 0).toNat y := by rw [← Y]; exact cB_ok hH
  have b0 := b1_0 hH
  have bV := hB.2.1.2.1
  have u1 := tN_le hok (s := s) (by omega)
  have u2 := tN_le hok (s := tN y s) (by omega)
  have u3 := tN_le hok (s := tN y (tN y s)) (by omega)
  have u4 := tN_le hok (s := tN y (tN y (tN y s))) (by omega)
  refine l79 (pre := []) (m := 0) (kk := 0) hH Y hT (by omega) hB (by omega) (by decide) (pr_0 rfl) (by omega) (by decide) (fun z hp1 e1 e2 e3 e4 e5 e6 => hR z hp1 e3 e4 (rSt_e (tSt_2 hwd e1) e2 e5 e6)) (fun w1 k1 hp1 n1 v1a v1b _ H1 F1 Y1 T1 B1 W1 M1 K1 A1 A1b => ?_)
  have q0 : rN hp1 1 0 = rN hp 1 0 := p_n F1 (by omega)
  have p1 := pr_or (v := (tV y (tN y s)).toNat) (pre2 := [tV y (tN y s)]) (by omega) (pr_0 (m := 0) rfl) (fun i => by rw [show (((tV y (tN y s)).toNat : Nat) : Int) = tV y (tN y s) by omega]; simp)
  refine l79 (pre := [tV y (tN y s)]) (kk := 1) H1 Y1 T1 (by omega) B1 W1 M1 p1 (by omega) (by decide) (fun z hp2 e1 e2 e3 e4 e5 e6 => hR z hp2 e3 (F1.trans e4) (rSt_e (tSt_3 hwd n1 e1) e2 e5 e6)) (fun w2 k2 hp2 n2 v2a v2b v2n H2 F2 Y2 T2 B2 W2 M2 K2 A2 A2b => ?_)
  have q1 : rN hp2 1 0 = rN hp1 1 0 := p_n F2 (by omega)
  have p2 := pr_or (v := (tV y (tN y (tN y s))).toNat) (pre2 := [tV y (tN y s), tV y (tN y (tN y s))]) (by omega) p1 (fun i => by rw [show (((tV y (tN y (tN y s))).toNat : Nat) : Int) = tV y (tN y (tN y s)) by omega]; simp)
  refine l79 (pre := [tV y (tN y s), tV y (tN y (tN y s))]) (kk := 2) H2 Y2 T2 (by omega) B2 W2 M2 p2 (by omega) (by decide) (fun z hp3 e1 e2 e3 e4 e5 e6 => hR z hp3 e3 ((F1.trans F2).trans e4) (rSt_e (tSt_4 hwd n1 n2 e1) e2 e5 e6)) (fun w3 k3 hp3 n3 v3a v3b v3n H3 F3 Y3 T3 B3 W3 M3 K3 A3 A3b => ?_)
  have q2 : rN hp3 1 0 = rN hp2 1 0 := p_n F3 (by omega)
  simp only [List.mem_singleton, List.mem_cons, List.not_mem_nil, or_false, not_or] at v2n v3n
  refine e79 (v1 := (tV y (tN y s)).toNat) (v2 := (tV y (tN y (tN y s))).toNat) (v3 := (tV y (tN y (tN y (tN y s)))).toNat) H3 ((F1.trans F2).trans F3) (by omega) (by omega) Y3 T3 (by omega) B3 ⟨hwd, n1, n2, n3⟩ (by omega) (by omega) (by omega) (by omega) (by omega) (by omega) (by omega) (by omega) (by omega) ?_ (by omega) hdv hR
  rw [W3, Nat.zero_or]
  rfl
theorem k_rds {d : Nat} {hp : amH} {R : xQ} {y : tY} {s V : Nat} {T : sT} (hH : bHk 84 bTT hp) (Y : cB hp = y) (hT : cT hp y s) (hs : (s : Int) ≤ rN hp 1 0) (hB : bdOk hp 8 V T)
    (hR : ∀ (z : Int32) hp1, bHk 84 bTT hp1 → pFr hp hp1 → rSt y V T s z.toInt hp hp1 → R (.inl (some (.int z))) hp1) : xK (d + 4) 79 [.ref 1, .ref 8] hp R := by
  have hok : tOk (rN hp 1 0).toNat y := by rw [← Y]; exact cB_ok hH
  have b0 := b1_0 hH
  have w1 := tE_le hok (s := s) (by omega)
  refine xin (M := am_m79) rfl rfl rfl ?_
  refine xald 1 ⟨u79, _, rfl⟩ rfl rfl ?_
  refine xldcW 3 ⟨u79, _, rfl⟩ rfl ?_
  refine xcallC 6 (o := 1) [.ref 1000001] [] hH ⟨u79, _, rfl⟩ rfl rfl (by decide) rfl (by decide) rfl ⟨rfl, rfl, rfl, rfl⟩ rfl (k_cw (l := wDev) rfl ⟨rfl, by decide⟩ hH Y hT (by omega) (fun z3 h3 => ⟨_, rfl, ?_⟩))
  refine xist 7 ⟨u79, _, rfl⟩ rfl rfl ?_
  refine xild 8 ⟨u79, _, rfl⟩ rfl rfl ?_
  refine xif_ne 11 ⟨u79, _, rfl⟩ rfl (fun c8 => ?_) (fun c8 => ?_)
  · refine xald 27 ⟨u79, _, rfl⟩ rfl rfl ?_
    refine xcallC 30 (o := 1) [] [] hH ⟨u79, _, rfl⟩ rfl rfl (by decide) rfl (by decide) rfl ⟨rfl, rfl, rfl, rfl⟩ rfl (k_cadv hH Y (p := tE y s) hT.2.1 (by omega) (fun hp27 hH27 F27 Y27 T27 => ⟨_, rfl, ?_⟩))
    refine xcst 31 (0) ⟨u79, _, rfl⟩ rfl (by decide) (fun z30 h30 => ?_)
    refine xist 32 ⟨u79, _, rfl⟩ rfl rfl ?_
    refine xcst 33 (0) ⟨u79, _, rfl⟩ rfl (by decide) (fun z32 h32 => ?_)
    refine xist2 35 ⟨u79, _, rfl⟩ rfl rfl ?_
    have q0 : rN hp27 1 0 = rN hp 1 0 := r_fr F27 rfl
    exact t79 hH27 Y27 T27 (by omega) (bdOk_fr hB (r_fr F27 rfl) (fun i => r_fr F27 rfl) (fun i => r_fr F27 rfl)) (by omega) (by omega) (Or.inl (by rcases h3 with g | g; exact g.2; omega)) (Or.inl ⟨by omega, by rcases h3 with g | g; exact g.2; omega⟩) (fun z hp1 g1 g2 g3 => hR z hp1 g1 ((pFr_t F27).trans g2) (rSt_h g3 (r_fr F27 rfl) (r_fr F27 rfl)))
  · refine xald 12 ⟨u79, _, rfl⟩ rfl rfl ?_
    refine xldcW 14 ⟨u79, _, rfl⟩ rfl ?_
    refine xcallC 17 (o := 1) [.ref 1000002] [] hH ⟨u79, _, rfl⟩ rfl rfl (by decide) rfl (by decide) rfl ⟨rfl, rfl, rfl, rfl⟩ rfl (k_cw (l := wTri) rfl ⟨rfl, by decide⟩ hH Y hT (by omega) (fun z14 h14 => ⟨_, rfl, ?_⟩))
    refine xif_ne 20 ⟨u79, _, rfl⟩ rfl (fun c17 => ?_) (fun c17 => ?_)
    · refine xald 27 ⟨u79, _, rfl⟩ rfl rfl ?_
      refine xcallC 30 (o := 1) [] [] hH ⟨u79, _, rfl⟩ rfl rfl (by decide) rfl (by decide) rfl ⟨rfl, rfl, rfl, rfl⟩ rfl (k_cadv hH Y (p := tE y s) hT.2.1 (by omega) (fun hp27 hH27 F27 Y27 T27 => ⟨_, rfl, ?_⟩))
      refine xcst 31 (0) ⟨u79, _, rfl⟩ rfl (by decide) (fun z30 h30 => ?_)
      refine xist 32 ⟨u79, _, rfl⟩ rfl rfl ?_
      refine xcst 33 (0) ⟨u79, _, rfl⟩ rfl (by decide) (fun z32 h32 => ?_)
      refine xist2 35 ⟨u79, _, rfl⟩ rfl rfl ?_
      have q0 : rN hp27 1 0 = rN hp 1 0 := r_fr F27 rfl
      exact t79 hH27 Y27 T27 (by omega) (bdOk_fr hB (r_fr F27 rfl) (fun i => r_fr F27 rfl) (fun i => r_fr F27 rfl)) (by omega) (by omega) (Or.inr (by rcases h14 with g | g; exact g.2; omega)) (Or.inr ⟨by omega, by rcases h14 with g | g; exact g.2; omega⟩) (fun z hp1 g1 g2 g3 => hR z hp1 g1 ((pFr_t F27).trans g2) (rSt_h g3 (r_fr F27 rfl) (r_fr F27 rfl)))
    · refine xald 21 ⟨u79, _, rfl⟩ rfl rfl ?_
      refine xcst 22 (1) ⟨u79, _, rfl⟩ rfl (by decide) (fun z21 h21 => ?_)
      refine xcallC 25 (o := 1) [.int _] [] hH ⟨u79, _, rfl⟩ rfl rfl (by decide) rfl (by decide) rfl ⟨rfl, rfl, rfl, rfl⟩ rfl (k_cf hH (fun z22 hp22 Z22 hH22 F22 A22 B22 => ⟨_, rfl, ?_⟩))
      exact xretB ⟨u79, _, rfl⟩ rfl (by omega) (hR _ hp22 hH22 (pFr_f F22) (rSt_e (tSt_1 (fun z => by rcases z with z | z; rcases h3 with g | g; omega; rw [z] at g; exact absurd g.2 (by decide); rcases h14 with g | g; omega; rw [z] at g; exact absurd g.2 (by decide))) (by omega) (by omega) (by rw [B22]; exact hT.1)))
/-- what is read -/
noncomputable def rRs (y : tY) (V f : Nat) (T : sT) (s : Nat) (z : Int) (hp1 : amH) : Prop := match tRs y V f T s with
  | .inl e => z = 0 ∧ rN hp1 1 1 = e.1 ∧ rN hp1 1 2 = (e.2 : Int)
  | .inr T1 => z = 1 ∧ bdOk hp1 8 V T1 ∧ rN hp1 1 1 = 0 ∧ rN hp1 1 2 = -1
/-- after a statement that is read, the text is nearer to its end -/
theorem tSt_gt {n : Nat} {y : tY} (h : tOk n y) {V : Nat} {T : sT} {s : Nat} {q : sT × Nat} (e : tSt y V T s = .inr q) : s < q.2 ∧ (s ≤ n → q.2 ≤ n) := by
  have hw : tWd y s wDev = true ∨ tWd y s wTri = true := by
    apply Classical.byContradiction
    intro z
    rw [tSt_1 z] at e
    cases e
  have hk : ¬ tK y s = 0 := by
    rcases hw with g | g
    · have := (of_decide_eq_true g).1; omega
    · have := (of_decide_eq_true g).1; omega
  have e2 : q.2 = tN y (tN y (tN y (tN y (tN y s)))) := by
    unfold tSt at e
    rw [if_neg (fun z => z hw)] at e
    split at e
    · cases e
    · split at e
      · cases e
      · split at e
        · cases e
        · split at e
          · cases e
          · split at e
            · cases e
            · split at e
              · cases e; rfl
              · split at e
                · cases e
                · cases e; rfl
  have g1 := tN_gt h hk
  have g2 := tN_ge (y := y) (s := tN y s)
  have g3 := tN_ge (y := y) (s := tN y (tN y s))
  have g4 := tN_ge (y := y) (s := tN y (tN y (tN y s)))
  have g5 := tN_ge (y := y) (s := tN y (tN y (tN y (tN y s))))
  refine ⟨by omega, fun hs => ?_⟩
  rw [e2]
  exact tN_le h (tN_le h (tN_le h (tN_le h (tN_le h hs))))
theorem b77 {d : Nat} {hp : amH} {R : xQ} {b k : Int32} (hb : b.toInt = 0) (hR : R (.inl (some (.int b))) hp) : xV d am_m77 27 [some (.ref 1), some (.ref 8), some (.int b), some (.int k)] [] hp R := by
  refine xild 28 ⟨u77, _, rfl⟩ rfl rfl ?_
  refine xsip 31 (600) ⟨u77, _, rfl⟩ rfl (by decide) (fun z28 h28 => ?_)
  refine xcmp_ge 34 ⟨u77, _, rfl⟩ rfl (fun c31 => ?_) (fun c31 => ?_)
  · refine xild 58 ⟨u77, _, rfl⟩ rfl rfl ?_
    exact xretB ⟨u77, _, rfl⟩ rfl (by omega) (hR)
  · refine xild 35 ⟨u77, _, rfl⟩ rfl rfl ?_
    refine xif_eq 38 ⟨u77, _, rfl⟩ rfl (fun c35 => ?_) (fun c35 => ?_)
    · refine xild 58 ⟨u77, _, rfl⟩ rfl rfl ?_
      exact xretB ⟨u77, _, rfl⟩ rfl (by omega) (hR)
    · omega
theorem l77 {d : Nat} {hp0 : amH} {R : xQ} {y : tY} {V : Nat} (hok : tOk (rN hp0 1 0).toNat y) (hb0 : rN hp0 1 0 ≤ 600) :
    ∀ (f s q : Nat) (T : sT) (hp : amH) (k : Int32), bHk 84 bTT hp → pFr hp0 hp → cB hp = y → cT hp y s → (s : Int) ≤ rN hp0 1 0 → bdOk hp 8 V T → rN hp 1 1 = 0 → rN hp 1 2 = -1 → k.toInt = (q : Int) → q ≤ s → 600 < f + s →
    (∀ (z : Int32) hp1, bHk 84 bTT hp1 → pFr hp0 hp1 → rRs y V f T s z.toInt hp1 → R (.inl (some (.int z))) hp1) → ∀ b : Int32, b.toInt = 1 → xV (d + 5) am_m77 27 [some (.ref 1), some (.ref 8), some (.int b), some (.int k)] [] hp R := by
  intro f
  induction f with
  | zero => intro s q T hp k hH hF Y hT hs hB h1 h2 hk hq hf hR b hb; omega
  | succ f ih =>
    intro s q T hp k hH hF Y hT hs hB h1 h2 hk hq hf hR b hb
    have q0 : rN hp 1 0 = rN hp0 1 0 := p_n hF (by omega)
    have K0 := hT.2.2.1
    have ns : ¬ tK y s = 0 → (s : Int) < rN hp0 1 0 := fun z => by
      rcases Nat.lt_or_ge s (rN hp0 1 0).toNat with g | g
      · omega
      · exact absurd (tK_0.mpr (hok.2.2 s g)) z
    unfold rRs tRs at hR
    refine xild 28 ⟨u77, _, rfl⟩ rfl rfl ?_
    refine xsip 31 (600) ⟨u77, _, rfl⟩ rfl (by decide) (fun z28 h28 => ?_)
    refine xcmp_ge 34 ⟨u77, _, rfl⟩ rfl (fun c31 => ?_) (fun c31 => ?_)
    · have k0 : tK y s = 0 := Classical.byContradiction (fun z => by have := ns z; omega)
      refine xild 58 ⟨u77, _, rfl⟩ rfl rfl ?_
      rw [if_pos k0] at hR
      exact xretB ⟨u77, _, rfl⟩ rfl (by omega) (hR _ hp hH hF ⟨hb, hB, h1, h2⟩)
    · refine xild 35 ⟨u77, _, rfl⟩ rfl rfl ?_
      refine xif_eq 38 ⟨u77, _, rfl⟩ rfl (fun c35 => ?_) (fun c35 => ?_)
      · omega
      · refine xald 39 ⟨u77, _, rfl⟩ rfl rfl ?_
        refine xgetC 42 hH ⟨u77, _, rfl⟩ rfl (by decide) (by decide) rfl rfl (by decide) (fun z39 h39 => ?_)
        refine xif_eq 45 ⟨u77, _, rfl⟩ rfl (fun c42 => ?_) (fun c42 => ?_)
        · refine xild 58 ⟨u77, _, rfl⟩ rfl rfl ?_
          rw [if_pos (ckK_0.mp (by omega))] at hR
          exact xretB ⟨u77, _, rfl⟩ rfl (by omega) (hR _ hp hH hF ⟨hb, hB, h1, h2⟩)
        · have nk : ¬ tK y s = 0 := fun z => by have := ckK_0.mpr z; omega
          rw [if_neg nk] at hR
          refine xald 46 ⟨u77, _, rfl⟩ rfl rfl ?_
          refine xald 47 ⟨u77, _, rfl⟩ rfl rfl ?_
          refine xcallC 50 (o := 1) [.ref 8] [] hH ⟨u77, _, rfl⟩ rfl rfl (by decide) rfl (by decide) rfl ⟨rfl, rfl, rfl, rfl⟩ rfl (k_rds hH Y hT (by omega) hB (fun z47 hp47 hH47 F47 r47 => ⟨_, rfl, ?_⟩))
          refine xist 51 ⟨u77, _, rfl⟩ rfl rfl ?_
          refine xinc 54 (1) ⟨u77, _, rfl⟩ rfl rfl rfl (by decide) (by omega) (by omega) (fun z51 h51 => ?_)
          refine xgoto ⟨u77, _, rfl⟩ ?_
          cases e : tSt y V T s with
          | inl er =>
            rw [e] at hR
            unfold rSt at r47
            rw [e] at r47
            have r47 : z47.toInt = 0 ∧ rN hp47 1 1 = er.1 ∧ rN hp47 1 2 = (er.2 : Int) := r47
            exact b77 (by omega) (hR _ hp47 hH47 (hF.trans F47) r47)
          | inr qq =>
            rw [e] at hR
            unfold rSt at r47
            rw [e] at r47
            obtain ⟨r1, r2, r3, S1, S2⟩ := r47
            have gt := tSt_gt hok e
            exact ih qq.2 (q + 1) qq.1 hp47 _ hH47 (hF.trans F47) (by rw [cB_p F47, Y]) r3 (by have := gt.2 (by omega); omega) r2 (by omega) (by omega) (by omega) (by omega) (by omega) hR _ r1
theorem pFr_U {hp hp1 : amH} {j : Nat} {m : Int} (U : rU hp hp1 1 j m) (h : ¬ j = 0 ∧ ¬ j = 3) : pFr hp hp1 := fun c k e => U.2 c k (fun z => e (Or.inl ⟨z.1, by rw [z.2]; exact h.1, by rw [z.2]; exact h.2⟩))
noncomputable def rRd (y : tY) (z : Int) (hp1 : amH) : Prop := match tRd y with
  | .inl e => z = 0 ∧ rN hp1 1 1 = e.1 ∧ rN hp1 1 2 = (e.2 : Int)
  | .inr q => z = 1 ∧ bdOk hp1 8 q.1 q.2 ∧ rN hp1 1 1 = 0 ∧ rN hp1 1 2 = -1
/-- the class reads its text -/
theorem k_read {d : Nat} {hp : amH} {R : xQ} {y : tY} (hH : bHk 84 bTT hp) (Y : cB hp = y)
    (hR : ∀ (z : Int32) hp1, bHk 84 bTT hp1 → pFr hp hp1 → rRd y z.toInt hp1 → R (.inl (some (.int z))) hp1) : xK (d + 5) 77 [.ref 1, .ref 8] hp R := by
  have hok : tOk (rN hp 1 0).toNat y := by rw [← Y]; exact cB_ok hH
  have b0 := b1_0 hH
  have u0 := tS_le hok (p := 0) (by omega)
  have u1 := tN_le hok (s := tS y 0) (by omega)
  have u2 := tN_le hok (s := tN y (tS y 0)) (by omega)
  have u3 := tN_le hok (s := tN y (tN y (tS y 0))) (by omega)
  refine xin (M := am_m77) rfl rfl rfl ?_
  refine xald 1 ⟨u77, _, rfl⟩ rfl rfl ?_
  refine xcst 2 (0) ⟨u77, _, rfl⟩ rfl (by decide) (fun z1 h1 => ?_)
  refine xputC 5 hH ⟨u77, _, rfl⟩ rfl (by decide) (by decide) rfl rfl (by decide) ⟨rfl, rfl⟩ (by omega) (by omega) (fun hp2 hH2 U2 => ?_)
  have s2 := U2.1
  have n2_1_0 : rN hp2 (1) 0 = rN hp (1) 0 := rU_ne U2 (by first | decide | exact (fun z => absurd z.1 (by decide)) | omega)
  have n2_1_2 : rN hp2 (1) 2 = rN hp (1) 2 := rU_ne U2 (by first | decide | exact (fun z => absurd z.1 (by decide)) | omega)
  have n2_1_4 : rN hp2 (1) 4 = rN hp (1) 4 := rU_ne U2 (by first | decide | exact (fun z => absurd z.1 (by decide)) | omega)
  refine xald 6 ⟨u77, _, rfl⟩ rfl rfl ?_
  refine xcst 7 (-1) ⟨u77, _, rfl⟩ rfl (by decide) (fun z6 h6 => ?_)
  refine xputC 10 hH2 ⟨u77, _, rfl⟩ rfl (by decide) (by decide) rfl rfl (by decide) ⟨rfl, rfl⟩ (by omega) (by omega) (fun hp7 hH7 U7 => ?_)
  have s7 := U7.1
  have n7_1_0 : rN hp7 (1) 0 = rN hp2 (1) 0 := rU_ne U7 (by first | decide | exact (fun z => absurd z.1 (by decide)) | omega)
  have n7_1_1 : rN hp7 (1) 1 = rN hp2 (1) 1 := rU_ne U7 (by first | decide | exact (fun z => absurd z.1 (by decide)) | omega)
  have n7_1_4 : rN hp7 (1) 4 = rN hp2 (1) 4 := rU_ne U7 (by first | decide | exact (fun z => absurd z.1 (by decide)) | omega)
  refine xald 11 ⟨u77, _, rfl⟩ rfl rfl ?_
  refine xcst 12 (0) ⟨u77, _, rfl⟩ rfl (by decide) (fun z11 h11 => ?_)
  refine xputC 15 hH7 ⟨u77, _, rfl⟩ rfl (by decide) (by decide) rfl rfl (by decide) ⟨rfl, rfl⟩ (by omega) (by omega) (fun hp12 hH12 U12 => ?_)
  have s12 := U12.1
  have n12_1_0 : rN hp12 (1) 0 = rN hp7 (1) 0 := rU_ne U12 (by first | decide | exact (fun z => absurd z.1 (by decide)) | omega)
  have n12_1_1 : rN hp12 (1) 1 = rN hp7 (1) 1 := rU_ne U12 (by first | decide | exact (fun z => absurd z.1 (by decide)) | omega)
  have n12_1_2 : rN hp12 (1) 2 = rN hp7 (1) 2 := rU_ne U12 (by first | decide | exact (fun z => absurd z.1 (by decide)) | omega)
  refine xald 16 ⟨u77, _, rfl⟩ rfl rfl ?_
  refine xcallC 19 (o := 1) [] [] hH12 ⟨u77, _, rfl⟩ rfl rfl (by decide) rfl (by decide) rfl ⟨rfl, rfl, rfl, rfl⟩ rfl (k_cadv hH12 ((cB_U U12 (by decide)).trans ((cB_U U7 (by decide)).trans ((cB_U U2 (by decide)).trans Y))) (p := 0) (by omega) (by omega) (fun hp16 hH16 F16 Y16 T16 => ⟨_, rfl, ?_⟩))
  have G16 := (((pFr_U U2 (by decide)).trans (pFr_U U7 (by decide))).trans (pFr_U U12 (by decide))).trans (pFr_t F16)
  have n16 : rN hp16 1 0 = rN hp 1 0 := p_n G16 (by omega)
  have c16 : rN hp16 1 1 = rN hp12 1 1 := r_fr F16 rfl
  have o16 : rN hp16 1 2 = rN hp12 1 2 := r_fr F16 rfl
  refine xald 20 ⟨u77, _, rfl⟩ rfl rfl ?_
  refine xald 21 ⟨u77, _, rfl⟩ rfl rfl ?_
  refine xcallC 24 (o := 1) [.ref 8] [] hH16 ⟨u77, _, rfl⟩ rfl rfl (by decide) rfl (by decide) rfl ⟨rfl, rfl, rfl, rfl⟩ rfl (k_rdp hH16 Y16 T16 (by omega) (fun z21 hp21 hH21 F21 r21 => ⟨_, rfl, ?_⟩))
  refine xist 25 ⟨u77, _, rfl⟩ rfl rfl ?_
  refine xcst 26 (0) ⟨u77, _, rfl⟩ rfl (by decide) (fun z25 h25 => ?_)
  refine xist 27 ⟨u77, _, rfl⟩ rfl rfl ?_
  cases e : tPt y (tS y 0) with
  | inl er =>
    unfold rPt at r21
    rw [e] at r21
    refine b77 (by have := r21.1; omega) (hR _ hp21 hH21 (G16.trans F21) ?_)
    unfold rRd tRd
    rw [e]
    exact r21
  | inr V =>
    unfold rPt at r21
    rw [e] at r21
    obtain ⟨r1, r2, r3, r4, r5, r6, r7⟩ := r21
    have n21 : rN hp21 1 0 = rN hp 1 0 := (p_n F21 (by omega)).trans n16
    refine l77 (hp0 := hp) hok b0.2 601 _ 0 sE hp21 _ hH21 (G16.trans F21) (by rw [cB_p F21, Y16]) r5 (by omega) r4 (by omega) (by omega) (by omega) (by omega) (by omega) (fun z hp1 g1 g2 g3 => hR z hp1 g1 g2 ?_) _ r1
    unfold rRd tRd
    rw [e]
    unfold rRs at g3
    cases e2 : tRs y V 601 sE (tN y (tN y (tN y (tS y 0)))) with
    | inl er => rw [e2] at g3; show (match (match tRs y V 601 sE (tN y (tN y (tN y (tS y 0)))) with | .inl e => Sum.inl e | .inr T => Sum.inr (V, T)) with | Sum.inl e => z.toInt = 0 ∧ rN hp1 1 1 = e.fst ∧ rN hp1 1 2 = (e.snd : Int) | Sum.inr q => z.toInt = 1 ∧ bdOk hp1 8 q.fst q.snd ∧ rN hp1 1 1 = 0 ∧ rN hp1 1 2 = -1); rw [e2]; exact g3
    | inr T1 => rw [e2] at g3; show (match (match tRs y V 601 sE (tN y (tN y (tN y (tS y 0)))) with | .inl e => Sum.inl e | .inr T => Sum.inr (V, T)) with | Sum.inl e => z.toInt = 0 ∧ rN hp1 1 1 = e.fst ∧ rN hp1 1 2 = (e.snd : Int) | Sum.inr q => z.toInt = 1 ∧ bdOk hp1 8 q.fst q.snd ∧ rN hp1 1 1 = 0 ∧ rN hp1 1 2 = -1); rw [e2]; exact g3
end
