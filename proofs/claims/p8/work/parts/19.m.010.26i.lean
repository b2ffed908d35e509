/-! ===== the class reads its points ===== -/
theorem u78 : bUp 0 am_m78.1 = true := by decide +kernel
theorem u79 : bUp 0 am_m79.1 = true := by decide +kernel
theorem u77 : bUp 0 am_m77.1 = true := by decide +kernel
/-- what reading writes -/
def pFr (hp hp1 : amH) : Prop := ∀ c k, ¬ ((c = 1 ∧ ¬ k = 0 ∧ ¬ k = 3) ∨ c = 8 ∨ c = 9 ∨ c = 11) → bFld hp1 c k = bFld hp c k
theorem pFr.refl {hp : amH} : pFr hp hp := fun _ _ _ => rfl
theorem pFr.trans {a b c : amH} (h1 : pFr a b) (h2 : pFr b c) : pFr a c := fun i k e => (h2 i k e).trans (h1 i k e)
theorem pFr_t {hp hp1 : amH} (F : bFr wCt hp hp1) : pFr hp hp1 := fun c k e => F c k (by
  by_cases h : c = 1
  · subst h
    have : k = 0 ∨ k = 3 := by omega
    rcases this with rfl | rfl <;> rfl
  · simp [bIn, wCt, show Nat.beq 1 c = false from by cases e : Nat.beq 1 c; rfl; exact absurd (Nat.eq_of_beq_eq_true e).symm h])
theorem pFr_f {hp hp1 : amH} (F : bFr wCf hp hp1) : pFr hp hp1 := fun c k e => F c k (by
  by_cases h : c = 1
  · subst h
    have : k = 0 ∨ k = 3 := by omega
    rcases this with rfl | rfl <;> rfl
  · simp [bIn, wCf, show Nat.beq 1 c = false from by cases e : Nat.beq 1 c; rfl; exact absurd (Nat.eq_of_beq_eq_true e).symm h])
theorem pFr_x {W : List Nat} {hp hp1 : amH} (F : bFx W hp hp1) (h : ∀ c ∈ W, c = 8 ∨ c = 9 ∨ c = 11) : pFr hp hp1 := fun c k e => F c k (fun z => e (Or.inr (h c z)))
theorem p_n {hp hp1 : amH} (F : pFr hp hp1) {c i : Nat} (h : ¬ ((c = 1 ∧ ¬ i = 0 ∧ ¬ i = 3) ∨ c = 8 ∨ c = 9 ∨ c = 11)) : rN hp1 c i = rN hp c i := rN_eq (F c i h)
theorem cB_p {hp hp1 : amH} (F : pFr hp hp1) : cB hp1 = cB hp := by
  funext k
  unfold cB
  rw [p_n F (by omega), p_n F (by omega)]
theorem tNum_1 {y : tY} {s : Nat} {lo hi : Int} {pre : List Int} (h : ¬ ckK y s = 2) : tNum y s lo hi pre = 1 := by
  unfold tNum
  rw [if_pos (fun z => h (ckK_2.mpr z))]
theorem tNum_2 {y : tY} {s : Nat} {lo hi : Int} {pre : List Int} (h : ckK y s = 2) (h2 : tV y s < lo ∨ hi < tV y s ∨ tV y s ∈ pre) : tNum y s lo hi pre = 2 := by
  unfold tNum
  rw [if_neg (fun z => z (ckK_2.mp h))]
  by_cases g : tV y s < lo ∨ hi < tV y s
  · rw [if_pos g]
  · rw [if_neg g, if_pos (by
      rcases h2 with z | z | z
      · exact absurd (Or.inl z) g
      · exact absurd (Or.inr z) g
      · exact z)]
theorem tNum_0 {y : tY} {s : Nat} {lo hi : Int} {pre : List Int} (h : ckK y s = 2) (h1 : lo ≤ tV y s) (h2 : tV y s ≤ hi) (h3 : ¬ tV y s ∈ pre) : tNum y s lo hi pre = 0 := by
  unfold tNum
  rw [if_neg (fun z => z (ckK_2.mp h)), if_neg (by omega), if_neg h3]
def rPt (y : tY) (s : Nat) (z : Int) (hp hp1 : amH) : Prop := match tPt y s with
  | .inl e => z = 0 ∧ rN hp1 1 1 = e.1 ∧ rN hp1 1 2 = (e.2 : Int)
  | .inr V => z = 1 ∧ 3 ≤ V ∧ V ≤ 15 ∧ bdOk hp1 8 V sE ∧ cT hp1 y (tN y (tN y (tN y s))) ∧ rN hp1 1 1 = rN hp 1 1 ∧ rN hp1 1 2 = rN hp 1 2
theorem rPt_e {y : tY} {s : Nat} {z : Int} {hp hp1 : amH} {c : Int} {q : Nat} (e : tPt y s = .inl (c, q)) (hz : z = 0) (h1 : rN hp1 1 1 = c) (h2 : rN hp1 1 2 = (q : Int)) : rPt y s z hp hp1 := by
  unfold rPt
  rw [e]
  exact ⟨hz, h1, h2⟩
theorem k_rdp {d : Nat} {hp : amH} {R : xQ} {y : tY} {s : Nat} (hH : bHk 84 bTT hp) (Y : cB hp = y) (T : cT hp y s) (hs : (s : Int) ≤ rN hp 1 0)
    (hR : ∀ (z : Int32) hp1, bHk 84 bTT hp1 → pFr hp hp1 → rPt y s z.toInt hp hp1 → R (.inl (some (.int z))) hp1) : xK (d + 3) 78 [.ref 1, .ref 8] hp R := by
  have hok : tOk (rN hp 1 0).toNat y := by rw [← Y]; exact cB_ok hH
  have b0 := b1_0 hH
  have w1 := tE_le hok (s := s) (by omega)
  have w2 := tN_le hok (s := s) (by omega)
  have w3 := tE_le hok (s := tN y s) (by omega)
  have w4 := tN_le hok (s := tN y s) (by omega)
  have w5 := tE_le hok (s := tN y (tN y s)) (by omega)
  refine xin (M := am_m78) rfl rfl rfl ?_
  have G := @pFr.refl hp
  have N : rN hp 1 0 = rN hp 1 0 := rfl
  refine xald 1 ⟨u78, _, rfl⟩ rfl rfl ?_
  refine xldcW 3 ⟨u78, _, rfl⟩ rfl ?_
  refine xcallC 6 (o := 1) [.ref 1000000] [] hH ⟨u78, _, rfl⟩ rfl rfl (by decide) rfl (by decide) rfl ⟨rfl, rfl, rfl, rfl⟩ rfl (k_cw (l := wPts) rfl ⟨rfl, by decide⟩ hH Y T (by omega) (fun z3 h3 => ⟨_, rfl, ?_⟩))
  refine xif_ne 9 ⟨u78, _, rfl⟩ rfl (fun c6 => ?_) (fun c6 => ?_)
  · have wT : ¬ ¬ tWd y s wPts = true := by rcases h3 with g | g; exact fun z => z g.2; omega
    refine xald 16 ⟨u78, _, rfl⟩ rfl rfl ?_
    refine xcallC 19 (o := 1) [] [] hH ⟨u78, _, rfl⟩ rfl rfl (by decide) rfl (by decide) rfl ⟨rfl, rfl, rfl, rfl⟩ rfl (k_cadv hH Y (p := tE y (s)) T.2.1 (by rw [N]; omega) (fun hp16 hH16 F16 Y16 T16 => ⟨_, rfl, ?_⟩))
    have T16 : cT hp16 y (tN y (s)) := T16
    have K16 : rN hp16 1 5 = ckK y (tN y (s)) := T16.2.2.1
    have G16 := G.trans (pFr_t F16)
    have N16 : rN hp16 1 0 = rN hp 1 0 := p_n G16 (by omega)
    refine xald 20 ⟨u78, _, rfl⟩ rfl rfl ?_
    refine xgetC 23 hH16 ⟨u78, _, rfl⟩ rfl (by decide) (by decide) rfl rfl (by decide) (fun z20 h20 => ?_)
    refine xcst 24 (2) ⟨u78, _, rfl⟩ rfl (by decide) (fun z23 h23 => ?_)
    refine xcmp_eq 27 ⟨u78, _, rfl⟩ rfl (fun c24 => ?_) (fun c24 => ?_)
    · have k2 : ckK y (tN y s) = 2 := by omega
      have v7 : rN hp16 1 7 = tV y (tN y s) := T16.2.2.2 (ckK_2.mp k2).1 (ckK_2.mp k2).2
      refine xald 34 ⟨u78, _, rfl⟩ rfl rfl ?_
      refine xgetC 37 hH16 ⟨u78, _, rfl⟩ rfl (by decide) (by decide) rfl rfl (by decide) (fun z34 h34 => ?_)
      refine xcst 38 (3) ⟨u78, _, rfl⟩ rfl (by decide) (fun z37 h37 => ?_)
      refine xcmp_lt 41 ⟨u78, _, rfl⟩ rfl (fun c38 => ?_) (fun c38 => ?_)
      · refine xald 51 ⟨u78, _, rfl⟩ rfl rfl ?_
        refine xcst 52 (2) ⟨u78, _, rfl⟩ rfl (by decide) (fun z51 h51 => ?_)
        refine xcallC 55 (o := 1) [.int _] [] hH16 ⟨u78, _, rfl⟩ rfl rfl (by decide) rfl (by decide) rfl ⟨rfl, rfl, rfl, rfl⟩ rfl (k_cf hH16 (fun z52 hp52 Z52 hH52 F52 A52 B52 => ⟨_, rfl, ?_⟩))
        have G52 := G16.trans (pFr_f F52)
        exact xretB ⟨u78, _, rfl⟩ rfl (by omega) (hR _ hp52 hH52 G52 (rPt_e (by unfold tPt; rw [if_neg wT, if_pos (by rw [tNum_2 k2 (by omega)]; decide), tNum_2 k2 (by omega)]) (by omega) (by omega) (by rw [B52]; exact T16.1)))
      · refine xald 42 ⟨u78, _, rfl⟩ rfl rfl ?_
        refine xgetC 45 hH16 ⟨u78, _, rfl⟩ rfl (by decide) (by decide) rfl rfl (by decide) (fun z42 h42 => ?_)
        refine xbip 47 (15) ⟨u78, _, rfl⟩ rfl (by decide) (fun z45 h45 => ?_)
        refine xcmp_le 50 ⟨u78, _, rfl⟩ rfl (fun c47 => ?_) (fun c47 => ?_)
        · have n0 : tNum y (tN y s) 3 15 [] = 0 := tNum_0 k2 (by omega) (by omega) (by simp)
          refine xald 57 ⟨u78, _, rfl⟩ rfl rfl ?_
          refine xald 58 ⟨u78, _, rfl⟩ rfl rfl ?_
          refine xgetC 61 hH16 ⟨u78, _, rfl⟩ rfl (by decide) (by decide) rfl rfl (by decide) (fun z58 h58 => ?_)
          have v58 : z58.toInt = tV y (tN y s) := h58.trans v7
          refine xcallC 64 (o := 8) [.int _] [] hH16 ⟨u78, _, rfl⟩ rfl rfl (by decide) rfl (by decide) rfl ⟨rfl, rfl, rfl, rfl⟩ rfl (k_rst (o := 8) (Or.inr rfl) (V := z58.toInt.toNat) hH16 (by omega) (by omega) (by omega) (fun hp61 hH61 F61 B61 S61 => ⟨_, rfl, ?_⟩))
          have G61 := G16.trans (pFr_x F61 (by simp))
          refine xald 65 ⟨u78, _, rfl⟩ rfl rfl ?_
          refine xcallC 68 (o := 1) [] [] hH61 ⟨u78, _, rfl⟩ rfl rfl (by decide) rfl (by decide) rfl ⟨rfl, rfl, rfl, rfl⟩ rfl (k_cadv hH61 (by rw [cB_p (pFr_x F61 (by simp)), Y16]) (p := tE y (tN y s)) (by rw [bFx_n F61 (by simp)]; exact T16.2.1) (by rw [bFx_n F61 (by simp), N16]; omega) (fun hp65 hH65 F65 Y65 T65 => ⟨_, rfl, ?_⟩))
          have T65 : cT hp65 y (tN y (tN y s)) := T65
          have K65 : rN hp65 1 5 = ckK y (tN y (tN y s)) := T65.2.2.1
          have G65 := G61.trans (pFr_t F65)
          have N65 : rN hp65 1 0 = rN hp 1 0 := p_n G65 (by omega)
          have B65 : bdOk hp65 8 z58.toInt.toNat sE := bdOk_fr B61 (r_fr F65 rfl) (fun i => r_fr F65 rfl) (fun i => r_fr F65 rfl)
          refine xald 69 ⟨u78, _, rfl⟩ rfl rfl ?_
          refine xgetC 72 hH65 ⟨u78, _, rfl⟩ rfl (by decide) (by decide) rfl rfl (by decide) (fun z69 h69 => ?_)
          refine xcst 73 (3) ⟨u78, _, rfl⟩ rfl (by decide) (fun z72 h72 => ?_)
          refine xcmp_eq 76 ⟨u78, _, rfl⟩ rfl (fun c73 => ?_) (fun c73 => ?_)
          · refine xald 83 ⟨u78, _, rfl⟩ rfl rfl ?_
            refine xcallC 86 (o := 1) [] [] hH65 ⟨u78, _, rfl⟩ rfl rfl (by decide) rfl (by decide) rfl ⟨rfl, rfl, rfl, rfl⟩ rfl (k_cadv hH65 Y65 (p := tE y (tN y (tN y s))) T65.2.1 (by rw [N65]; omega) (fun hp83 hH83 F83 Y83 T83 => ⟨_, rfl, ?_⟩))
            have G83 := G65.trans (pFr_t F83)
            have B83 : bdOk hp83 8 z58.toInt.toNat sE := bdOk_fr B65 (r_fr F83 rfl) (fun i => r_fr F83 rfl) (fun i => r_fr F83 rfl)
            refine xcst 87 (1) ⟨u78, _, rfl⟩ rfl (by decide) (fun z86 h86 => ?_)
            exact xretB ⟨u78, _, rfl⟩ rfl (by omega) (hR _ hp83 hH83 G83 (by unfold rPt; rw [show tPt y s = .inr z58.toInt.toNat by unfold tPt; rw [if_neg wT, if_neg (by rw [n0]; decide), if_neg (fun z => z (ckK_3.mp (by omega))), ← v58]]; exact ⟨by omega, by omega, by omega, B83, T83, by rw [show rN hp83 1 1 = rN hp65 1 1 from r_fr F83 rfl, show rN hp65 1 1 = rN hp61 1 1 from r_fr F65 rfl, bFx_n F61 (by simp), show rN hp16 1 1 = rN hp 1 1 from r_fr F16 rfl], by rw [show rN hp83 1 2 = rN hp65 1 2 from r_fr F83 rfl, show rN hp65 1 2 = rN hp61 1 2 from r_fr F65 rfl, bFx_n F61 (by simp), show rN hp16 1 2 = rN hp 1 2 from r_fr F16 rfl]⟩))
          · refine xald 77 ⟨u78, _, rfl⟩ rfl rfl ?_
            refine xcst 78 (1) ⟨u78, _, rfl⟩ rfl (by decide) (fun z77 h77 => ?_)
            refine xcallC 81 (o := 1) [.int _] [] hH65 ⟨u78, _, rfl⟩ rfl rfl (by decide) rfl (by decide) rfl ⟨rfl, rfl, rfl, rfl⟩ rfl (k_cf hH65 (fun z78 hp78 Z78 hH78 F78 A78 B78 => ⟨_, rfl, ?_⟩))
            have G78 := G65.trans (pFr_f F78)
            exact xretB ⟨u78, _, rfl⟩ rfl (by omega) (hR _ hp78 hH78 G78 (rPt_e (by unfold tPt; rw [if_neg wT, if_neg (by rw [n0]; decide), if_pos (fun z => c73 (by rw [← ckK_3] at z; omega))]) (by omega) (by omega) (by rw [B78]; exact T65.1)))
        · refine xald 51 ⟨u78, _, rfl⟩ rfl rfl ?_
          refine xcst 52 (2) ⟨u78, _, rfl⟩ rfl (by decide) (fun z51 h51 => ?_)
          refine xcallC 55 (o := 1) [.int _] [] hH16 ⟨u78, _, rfl⟩ rfl rfl (by decide) rfl (by decide) rfl ⟨rfl, rfl, rfl, rfl⟩ rfl (k_cf hH16 (fun z52 hp52 Z52 hH52 F52 A52 B52 => ⟨_, rfl, ?_⟩))
          have G52 := G16.trans (pFr_f F52)
          exact xretB ⟨u78, _, rfl⟩ rfl (by omega) (hR _ hp52 hH52 G52 (rPt_e (by unfold tPt; rw [if_neg wT, if_pos (by rw [tNum_2 k2 (by omega)]; decide), tNum_2 k2 (by omega)]) (by omega) (by omega) (by rw [B52]; exact T16.1)))
    · refine xald 28 ⟨u78, _, rfl⟩ rfl rfl ?_
      refine xcst 29 (1) ⟨u78, _, rfl⟩ rfl (by decide) (fun z28 h28 => ?_)
      refine xcallC 32 (o := 1) [.int _] [] hH16 ⟨u78, _, rfl⟩ rfl rfl (by decide) rfl (by decide) rfl ⟨rfl, rfl, rfl, rfl⟩ rfl (k_cf hH16 (fun z29 hp29 Z29 hH29 F29 A29 B29 => ⟨_, rfl, ?_⟩))
      have G29 := G16.trans (pFr_f F29)
      exact xretB ⟨u78, _, rfl⟩ rfl (by omega) (hR _ hp29 hH29 G29 (rPt_e (by unfold tPt; rw [if_neg wT, if_pos (by rw [tNum_1 (by omega)]; decide), tNum_1 (by omega)]) (by omega) (by omega) (by rw [B29]; exact T16.1)))
  · refine xald 10 ⟨u78, _, rfl⟩ rfl rfl ?_
    refine xcst 11 (1) ⟨u78, _, rfl⟩ rfl (by decide) (fun z10 h10 => ?_)
    refine xcallC 14 (o := 1) [.int _] [] hH ⟨u78, _, rfl⟩ rfl rfl (by decide) rfl (by decide) rfl ⟨rfl, rfl, rfl, rfl⟩ rfl (k_cf hH (fun z11 hp11 Z11 hH11 F11 A11 B11 => ⟨_, rfl, ?_⟩))
    have G11 := G.trans (pFr_f F11)
    exact xretB ⟨u78, _, rfl⟩ rfl (by omega) (hR _ hp11 hH11 G11 (rPt_e (by unfold tPt; rw [if_pos (by rcases h3 with g | g; omega; rw [g.2]; decide)]) (by omega) (by omega) (by rw [B11]; exact T.1)))
