/-! ===== the reference loads ===== -/
def rRr (y : tY) (V f : Nat) (T : sT) (s : Nat) (z : Int) (hp hp1 : amH) : Prop := match tRs y V f T s with
  | .inl e => z = 0 ∧ rN hp1 66 24 = e.1 ∧ rN hp1 66 25 = (e.2 : Int)
  | .inr T1 => z = 1 ∧ rdOk hp1 V T1 ∧ rN hp1 66 24 = 0 ∧ rN hp1 66 25 = rN hp 66 25 ∧ ∀ i, 1 ≤ i → i < 4 → rN hp1 67 i = rN hp 67 i
theorem m250 {d : Nat} {hp0 : amH} {R : xQ} {y : tY} {V : Nat} (hok : tOk (rN hp0 66 21).toNat y) (hb0 : rN hp0 66 21 ≤ 600) :
    ∀ (f s : Nat) (T : sT) (hp : amH), bHk 84 bTT hp → P0 hp → bFr wRS hp0 hp → rB hp = y → rT hp y s → (s : Int) ≤ rN hp0 66 21 → rdOk hp V T → rN hp 66 24 = 0 → rN hp 66 25 = rN hp0 66 25 → (∀ i, 1 ≤ i → i < 4 → rN hp 67 i = rN hp0 67 i) → 600 < f + s →
    (∀ (z : Int32) hp1, bHk 84 bTT hp1 → P0 hp1 → bFr wRS hp0 hp1 → rRr y V f T s z.toInt hp0 hp1 → R (.inl (some (.int z))) hp1) → xV (d + 7) am_m250 13 [some (.ref 66)] [] hp R := by
  intro f
  induction f with
  | zero => intro s T hp hH hP hF Y hT hs hB h1 h2 h4 hf hR; omega
  | succ f ih =>
    intro s T hp hH hP hF Y hT hs hB h1 h2 h4 hf hR
    have q0 : rN hp 66 21 = rN hp0 66 21 := r_fr hF rfl
    have K0 := hT.2.2.1
    unfold rRr tRs at hR
    refine xald 14 ⟨u250, _, rfl⟩ rfl rfl ?_
    refine xgetI 17 hH ⟨u250, _, rfl⟩ rfl rfl (fun z14 h14 => ?_)
    refine xif_eq 20 ⟨u250, _, rfl⟩ rfl (fun c17 => ?_) (fun c17 => ?_)
    · rw [if_pos (show tK y s = 0 by omega)] at hR
      refine xcst 37 (1) ⟨u250, _, rfl⟩ rfl (by decide) (fun z36 h36 => ?_)
      exact xretB ⟨u250, _, rfl⟩ rfl (by omega) (hR _ hp hH hP hF ⟨by omega, hB, h1, h2, h4⟩)
    · have nk : ¬ tK y s = 0 := by omega
      rw [if_neg nk] at hR
      refine xald 21 ⟨u250, _, rfl⟩ rfl rfl ?_
      refine xcall 24 [.ref 66] [] hH ⟨u250, _, rfl⟩ rfl rfl rfl rfl rfl (k_rrs hH hP Y hT (by omega) hB h1 (fun z21 hp21 hH21 hP21 F21 r21 => ⟨_, rfl, ?_⟩))
      refine xif_ne 27 ⟨u250, _, rfl⟩ rfl (fun c24 => ?_) (fun c24 => ?_)
      · obtain ⟨qq, e⟩ : ∃ qq, tSt y V T s = .inr qq := by
          cases e : tSt y V T s with
          | inl er => unfold rSr at r21; rw [e] at r21; have := r21.1; omega
          | inr qq => exact ⟨qq, rfl⟩
        rw [e] at hR
        unfold rSr at r21
        rw [e] at r21
        obtain ⟨r1, r2, ⟨s4, r3, r3b, r3c⟩, S1, S2, S3⟩ := r21
        have n21 : rN hp21 66 21 = rN hp 66 21 := r_fr F21 rfl
        have gt := tSt_gt hok e
        refine xald 30 ⟨u250, _, rfl⟩ rfl rfl ?_
        refine xcall 33 [.ref 66] [] hH21 ⟨u250, _, rfl⟩ rfl rfl rfl rfl rfl (k_radv hH21 (by rw [rB_rs F21, Y]) (p := tE y s4) r3.2.1 (by rw [show rN hp21 66 21 = rN hp 66 21 from r_fr F21 rfl, q0]; have := tE_le hok (s := s4) (by omega); omega) (fun hp30 hH30 F30 Y30 T30 => ⟨_, rfl, ?_⟩))
        refine xgoto ⟨u250, _, rfl⟩ ?_
        have F30b : bFr wRS hp hp30 := F21.trans (bFr_sub F30 (by decide))
        exact ih qq.2 qq.1 hp30 hH30 (P0_W (W := wAdv) (by decide) F30 hP21) (hF.trans F30b) Y30 (by rw [r3b]; exact T30) (by have := gt.2 (by omega); omega) (rdOk_fr r2 (fun i => r_fr F30 rfl)) (by rw [show rN hp30 66 24 = rN hp21 66 24 from r_fr F30 rfl]; exact S1) (by rw [show rN hp30 66 25 = rN hp21 66 25 from r_fr F30 rfl, S2]; exact h2) (fun i i1 i2 => by rw [show rN hp30 67 i = rN hp21 67 i from r_fr F30 rfl, S3 i i1 i2]; exact h4 i i1 i2) (by omega) hR
      · refine xcst 28 (0) ⟨u250, _, rfl⟩ rfl (by decide) (fun z27 h27 => ?_)
        cases e : tSt y V T s with
        | inl er =>
          rw [e] at hR
          unfold rSr at r21
          rw [e] at r21
          exact xretB ⟨u250, _, rfl⟩ rfl (by omega) (hR _ hp21 hH21 hP21 (hF.trans F21) ⟨by omega, r21.2⟩)
        | inr qq =>
          unfold rSr at r21
          rw [e] at r21
          have := r21.1
          omega
def rRt (y : tY) (z : Int) (hp hp1 : amH) : Prop := match tRd y with
  | .inl e => z = 0 ∧ rN hp1 66 24 = e.1 ∧ rN hp1 66 25 = (e.2 : Int)
  | .inr q => z = 1 ∧ rdOk hp1 q.1 q.2 ∧ rN hp1 66 24 = 0 ∧ rN hp1 66 25 = rN hp 66 25 ∧ ∀ i, 1 ≤ i → i < 4 → rN hp1 67 i = rN hp 67 i
theorem k_rrx {d : Nat} {hp : amH} {R : xQ} {y : tY} (hH : bHk 84 bTT hp) (hP : P0 hp) (hM : hE hp) (Y : rB hp = y) (hT : rT hp y (tS y 0)) (h0 : rN hp 66 24 = 0)
    (hR : ∀ (z : Int32) hp1, bHk 84 bTT hp1 → P0 hp1 → bFr wRS hp hp1 → rRt y z.toInt hp hp1 → R (.inl (some (.int z))) hp1) : xK (d + 7) 250 [.ref 66] hp R := by
  have hok : tOk (rN hp 66 21).toNat y := by rw [← Y]; exact rB_ok hH
  have b0 := b21 hH
  have u0 := tS_le hok (p := 0) (by omega)
  have u1 := tN_le hok (s := tS y 0) (by omega)
  have u2 := tN_le hok (s := tN y (tS y 0)) (by omega)
  have u3 := tN_le hok (s := tN y (tN y (tS y 0))) (by omega)
  have u2e := tE_le hok (s := tN y (tN y (tS y 0))) (by omega)
  refine xin (M := am_m250) rfl rfl rfl ?_
  refine xald 1 ⟨u250, _, rfl⟩ rfl rfl ?_
  refine xcall 4 [.ref 66] [] hH ⟨u250, _, rfl⟩ rfl rfl rfl rfl rfl (k_rrp hH hP hM Y hT (by omega) h0 (fun z1 hp1 hH1 hP1 F1 r1 => ⟨_, rfl, ?_⟩))
  have n1 : rN hp1 66 21 = rN hp 66 21 := r_fr F1 rfl
  refine xif_ne 7 ⟨u250, _, rfl⟩ rfl (fun c4 => ?_) (fun c4 => ?_)
  · obtain ⟨V, e⟩ : ∃ V, tPt y (tS y 0) = .inr V := by
      cases e : tPt y (tS y 0) with
      | inl er => unfold rPr at r1; rw [e] at r1; have := r1.1; omega
      | inr V => exact ⟨V, rfl⟩
    unfold rPr at r1
    rw [e] at r1
    obtain ⟨r1a, r2, r3, r4, r5, r6, r7, r8⟩ := r1
    refine xald 10 ⟨u250, _, rfl⟩ rfl rfl ?_
    refine xcall 13 [.ref 66] [] hH1 ⟨u250, _, rfl⟩ rfl rfl rfl rfl rfl (k_radv hH1 (by rw [rB_rs F1, Y]) (p := tE y (tN y (tN y (tS y 0)))) r5.2.1 (by omega) (fun hp10 hH10 F10 Y10 T10 => ⟨_, rfl, ?_⟩))
    refine m250 (hp0 := hp) hok b0.2 601 (tN y (tN y (tN y (tS y 0)))) sE hp10 hH10 (P0_W (W := wAdv) (by decide) F10 hP1) (F1.trans (bFr_sub F10 (by decide))) Y10 T10 (by omega) (rdOk_fr r4 (fun i => r_fr F10 rfl)) (by rw [show rN hp10 66 24 = rN hp1 66 24 from r_fr F10 rfl]; exact r6) (by rw [show rN hp10 66 25 = rN hp1 66 25 from r_fr F10 rfl]; exact r7) (fun i i1 i2 => by rw [show rN hp10 67 i = rN hp1 67 i from r_fr F10 rfl]; exact r8 i i1 i2) (by omega) (fun z hp2 g1 g2 g3 g4 => hR z hp2 g1 g2 g3 ?_)
    unfold rRr at g4
    unfold rRt tRd
    rw [e]
    cases e2 : tRs y V 601 sE (tN y (tN y (tN y (tS y 0)))) with
    | inl er => rw [e2] at g4; show (match (match tRs y V 601 sE (tN y (tN y (tN y (tS y 0)))) with | .inl e => Sum.inl e | .inr T => Sum.inr (V, T)) with | Sum.inl e => z.toInt = 0 ∧ rN hp2 66 24 = e.fst ∧ rN hp2 66 25 = (e.snd : Int) | Sum.inr q => z.toInt = 1 ∧ rdOk hp2 q.fst q.snd ∧ rN hp2 66 24 = 0 ∧ rN hp2 66 25 = rN hp 66 25 ∧ ∀ i, 1 ≤ i → i < 4 → rN hp2 67 i = rN hp 67 i); rw [e2]; exact g4
    | inr T1 => rw [e2] at g4; show (match (match tRs y V 601 sE (tN y (tN y (tN y (tS y 0)))) with | .inl e => Sum.inl e | .inr T => Sum.inr (V, T)) with | Sum.inl e => z.toInt = 0 ∧ rN hp2 66 24 = e.fst ∧ rN hp2 66 25 = (e.snd : Int) | Sum.inr q => z.toInt = 1 ∧ rdOk hp2 q.fst q.snd ∧ rN hp2 66 24 = 0 ∧ rN hp2 66 25 = rN hp 66 25 ∧ ∀ i, 1 ≤ i → i < 4 → rN hp2 67 i = rN hp 67 i); rw [e2]; exact g4
  · refine xcst 8 (0) ⟨u250, _, rfl⟩ rfl (by decide) (fun z7 h7 => ?_)
    cases e : tPt y (tS y 0) with
    | inl er =>
      unfold rPr at r1
      rw [e] at r1
      exact xretB ⟨u250, _, rfl⟩ rfl (by omega) (hR _ hp1 hH1 hP1 F1 (by unfold rRt tRd; rw [e]; exact ⟨by omega, r1.2⟩))
    | inr V =>
      unfold rPr at r1
      rw [e] at r1
      have := r1.1
      omega
