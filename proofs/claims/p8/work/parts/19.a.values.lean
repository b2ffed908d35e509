/-! ===== truncateInput, with its answers ===== -/
theorem k_114v {d : Nat} {hp : amH} {R : xQ} {x : Int32} (hH : bHk 84 bTT hp) (hR : ∀ (z : Int32) hp1, bHk 84 bTT hp1 → bFr [(1, 0)] hp hp1 → ((0 ≤ x.toInt ∧ x.toInt ≤ rN hp 1 0 ∧ rN hp1 1 0 = x.toInt ∧ z.toInt = 1) ∨ ((x.toInt < 0 ∨ rN hp 1 0 < x.toInt) ∧ rN hp1 1 0 = rN hp 1 0 ∧ z.toInt = 0)) → R (.inl (some (.int z))) hp1) : xK d 114 [.ref 0, .int x] hp R := by
  have b1 := b10 hH
  have m1 := aMin x
  have m2 := aMax x
  refine xin (M := am_m114) rfl rfl rfl ?_
  refine xild 1 ⟨u114, _, rfl⟩ rfl rfl ?_
  refine xif_lt 4 ⟨u114, _, rfl⟩ rfl (fun c1 => ?_) (fun c1 => ?_)
  · refine xcst 16 (0) ⟨u114, _, rfl⟩ rfl (by decide) (fun z15 h15 => ?_)
    exact xretB ⟨u114, _, rfl⟩ rfl (by omega) (hR _ hp hH (bFr.refl _ _) (Or.inr ⟨by omega, rfl, by omega⟩))
  · refine xild 5 ⟨u114, _, rfl⟩ rfl rfl ?_
    refine xald 6 ⟨u114, _, rfl⟩ rfl rfl ?_
    refine xgetD 9 1 hH ⟨u114, _, rfl⟩ rfl (by decide) (by decide) rfl rfl (by decide) ?_
    refine xgetC 12 hH ⟨u114, _, rfl⟩ rfl (by decide) (by decide) rfl rfl (by decide) (fun z9 h9 => ?_)
    refine xcmp_le 15 ⟨u114, _, rfl⟩ rfl (fun c12 => ?_) (fun c12 => ?_)
    · refine xald 18 ⟨u114, _, rfl⟩ rfl rfl ?_
      refine xgetD 21 1 hH ⟨u114, _, rfl⟩ rfl (by decide) (by decide) rfl rfl (by decide) ?_
      refine xild 22 ⟨u114, _, rfl⟩ rfl rfl ?_
      refine xputC 25 hH ⟨u114, _, rfl⟩ rfl (by decide) (by decide) rfl rfl (by decide) ⟨rfl, rfl⟩ (by omega) (by omega) (fun hp22 hH22 U22 => ?_)
      have s22 := U22.1
      refine xcst 26 (1) ⟨u114, _, rfl⟩ rfl (by decide) (fun z25 h25 => ?_)
      exact xretB ⟨u114, _, rfl⟩ rfl (by omega) (hR _ hp22 hH22 (rU_fr U22 (by decide)) (Or.inl ⟨by omega, by omega, by omega, by omega⟩))
    · refine xcst 16 (0) ⟨u114, _, rfl⟩ rfl (by decide) (fun z15 h15 => ?_)
      exact xretB ⟨u114, _, rfl⟩ rfl (by omega) (hR _ hp hH (bFr.refl _ _) (Or.inr ⟨by omega, rfl, by omega⟩))
theorem k_240v {d : Nat} {hp : amH} {R : xQ} {x : Int32} (hH : bHk 84 bTT hp) (hR : ∀ (z : Int32) hp1, bHk 84 bTT hp1 → bFr [(66, 7), (66, 21)] hp hp1 → ((0 ≤ x.toInt ∧ x.toInt ≤ rN hp 66 21 ∧ rN hp1 66 21 = x.toInt ∧ z.toInt = 1) ∨ ((x.toInt < 0 ∨ rN hp 66 21 < x.toInt) ∧ rN hp1 66 21 = rN hp 66 21 ∧ z.toInt = 0)) → R (.inl (some (.int z))) hp1) : xK (d + 1) 240 [.ref 66, .int x] hp R := by
  have b1 := b21 hH
  have m1 := aMin x
  have m2 := aMax x
  refine xin (M := am_m240) rfl rfl rfl ?_
  refine xald 1 ⟨u240, _, rfl⟩ rfl rfl ?_
  refine xcst 2 (0) ⟨u240, _, rfl⟩ rfl (by decide) (fun z1 h1 => ?_)
  refine xputI 5 hH ⟨u240, _, rfl⟩ rfl rfl ⟨rfl, rfl⟩ (by omega) (by omega) (fun hp2 hH2 U2 => ?_)
  have n2 : rN hp2 66 21 = rN hp 66 21 := rU_ne U2 (by omega)
  refine xild 6 ⟨u240, _, rfl⟩ rfl rfl ?_
  refine xcst 7 (0) ⟨u240, _, rfl⟩ rfl (by decide) (fun z6 h6 => ?_)
  refine xald 8 ⟨u240, _, rfl⟩ rfl rfl ?_
  refine xgetI 11 hH2 ⟨u240, _, rfl⟩ rfl rfl (fun z8 h8 => ?_)
  refine xcallS 14 [.int _, .int _, .int _] [] hH2 ⟨u240, _, rfl⟩ rfl rfl rfl rfl rfl (k_inr (fun z11 h11 => ⟨_, rfl, ?_⟩))
  refine xif_ne 17 ⟨u240, _, rfl⟩ rfl (fun c14 => ?_) (fun c14 => ?_)
  · refine xald 20 ⟨u240, _, rfl⟩ rfl rfl ?_
    refine xild 21 ⟨u240, _, rfl⟩ rfl rfl ?_
    refine xputI 24 hH2 ⟨u240, _, rfl⟩ rfl rfl ⟨rfl, rfl⟩ (by omega) (by omega) (fun hp21 hH21 U21 => ?_)
    have s21 := U21.1
    refine xcst 25 (1) ⟨u240, _, rfl⟩ rfl (by decide) (fun z24 h24 => ?_)
    exact xretB ⟨u240, _, rfl⟩ rfl (by omega) (hR _ hp21 hH21 ((rU_fr U2 (by decide)).trans (rU_fr U21 (by decide))) (Or.inl ⟨by omega, by omega, by omega, by omega⟩))
  · refine xcst 18 (0) ⟨u240, _, rfl⟩ rfl (by decide) (fun z17 h17 => ?_)
    exact xretB ⟨u240, _, rfl⟩ rfl (by omega) (hR _ hp2 hH2 (rU_fr U2 (by decide)) (Or.inr ⟨by omega, by omega, by omega⟩))
