/-! ===== the compared call ===== -/
theorem u195 : bUp 0 am_m195.1 = true := by decide +kernel
/-- what the reference says was thrown -/
theorem k_195 {d : Nat} {hp : amH} {R : xQ} (hH : bHk 84 bTT hp) (hR : ∀ z : Int32, z.toInt = rN hp 66 7 → R (.inl (some (.int z))) hp) : xK d 195 [.ref 66] hp R := by
  refine xin (M := am_m195) rfl rfl rfl ?_
  refine xald 1 ⟨u195, _, rfl⟩ rfl rfl ?_
  refine xgetI 4 hH ⟨u195, _, rfl⟩ rfl rfl (fun z1 h1 => ?_)
  exact xret ⟨u195, _, rfl⟩ rfl (hR _ h1)
theorem cs12J {sc : List Int32} {b : Nat} {i : Int32} {hp : amH} (i0 : 0 ≤ i.toInt) (i1 : i.toInt + 6 ≤ (sc.length : Int)) (hL : sc.length ≤ 100000) (hI : lawJ hp) (hN : ∀ hp1, lawJ hp1 → lV sc b 2284 i hp1) : lV sc (b + 1) 674 i hp := by
  obtain ⟨⟨V, T, ty⟩, n, h, sv, c, r⟩ := hI.2
  refine cald 675 (lI1 25 rfl) rfl rfl ?_
  refine cald 676 (lI1 26 rfl) rfl rfl ?_
  refine cild2 678 (lI1 27 rfl) rfl rfl ?_
  refine ccst 679 (1) (lI1 28 rfl) rfl (by decide) (fun z675 h675 => ?_)
  refine cadd 680 _ (lI1 29 rfl) rfl rfl (by omega) (by omega) (fun y675 g675 => ?_)
  refine csclE 681 (lI1 30 rfl) rfl (by omega) (by omega) (fun w675 e675 => ?_)
  refine cald 682 (lI1 31 rfl) rfl rfl ?_
  refine cild2 684 (lI1 32 rfl) rfl rfl ?_
  refine ccst 685 (2) (lI1 33 rfl) rfl (by decide) (fun z681 h681 => ?_)
  refine cadd 686 _ (lI1 34 rfl) rfl rfl (by omega) (by omega) (fun y681 g681 => ?_)
  refine csclE 687 (lI1 35 rfl) rfl (by omega) (by omega) (fun w681 e681 => ?_)
  refine cald 688 (lI1 36 rfl) rfl rfl ?_
  refine cild2 690 (lI1 37 rfl) rfl rfl ?_
  refine ccst 691 (3) (lI1 38 rfl) rfl (by decide) (fun z687 h687 => ?_)
  refine cadd 692 _ (lI1 39 rfl) rfl rfl (by omega) (by omega) (fun y687 g687 => ?_)
  refine csclE 693 (lI1 40 rfl) rfl (by omega) (by omega) (fun w687 e687 => ?_)
  refine cald 694 (lI1 41 rfl) rfl rfl ?_
  refine ccall (kd := 1) (t := 0) [.ref 0, .int _, .int _, .int _, .ref 83] [] hI.1.1 (lI1 42 rfl) (Or.inr ⟨_, rfl, rfl, by decide⟩) rfl rfl rfl ⟨rfl, rfl, rfl⟩ rfl rfl rfl (h354E (d := 579) hI.1 c r (fun rk hp1 mc ms hI1 r1 k1 o1 hmc hms => Or.inl ⟨_, rfl, ?_⟩))
  refine cistK 699 (lI1 43 rfl) rfl rfl ?_
  refine cald 700 (lI1 44 rfl) rfl rfl ?_
  refine cald 701 (lI1 45 rfl) rfl rfl ?_
  refine cild2 703 (lI1 46 rfl) rfl rfl ?_
  refine ccst 704 (1) (lI1 47 rfl) rfl (by decide) (fun z700 h700 => ?_)
  refine cadd 705 _ (lI1 48 rfl) rfl rfl (by omega) (by omega) (fun y700 g700 => ?_)
  refine csclE 706 (lI1 49 rfl) rfl (by omega) (by omega) (fun w700 e700 => ?_)
  refine cald 707 (lI1 50 rfl) rfl rfl ?_
  refine cild2 709 (lI1 51 rfl) rfl rfl ?_
  refine ccst 710 (2) (lI1 52 rfl) rfl (by decide) (fun z706 h706 => ?_)
  refine cadd 711 _ (lI1 53 rfl) rfl rfl (by omega) (by omega) (fun y706 g706 => ?_)
  refine csclE 712 (lI1 54 rfl) rfl (by omega) (by omega) (fun w706 e706 => ?_)
  refine cald 713 (lI1 55 rfl) rfl rfl ?_
  refine cild2 715 (lI1 56 rfl) rfl rfl ?_
  refine ccst 716 (3) (lI1 57 rfl) rfl (by decide) (fun z712 h712 => ?_)
  refine cadd 717 _ (lI1 58 rfl) rfl rfl (by omega) (by omega) (fun y712 g712 => ?_)
  refine csclE 718 (lI1 59 rfl) rfl (by omega) (by omega) (fun w712 e712 => ?_)
  have ew700 : w700 = w675 := by rw [e700, e675, show y700.toInt = y675.toInt by omega]
  subst ew700
  have ew706 : w706 = w681 := by rw [e706, e681, show y706.toInt = y681.toInt by omega]
  subst ew706
  have ew712 : w712 = w687 := by rw [e712, e687, show y712.toInt = y687.toInt by omega]
  subst ew712
  refine ccall (kd := 0) (t := 0) [.ref 66, .int _, .int _, .int _] [] hI1.1 (lI1 60 rfl) (Or.inl ⟨_, rfl, rfl, by decide, by decide⟩) rfl rfl rfl ⟨rfl, rfl, rfl⟩ rfl (recv66 hI1.1 _) rfl (qK (Φ := fun z hp2 => bHk 84 bTT hp2 ∧ P0 hp2 ∧ bFr wM hp1 hp2 ∧ stS hp2 ∧ rN hp2 66 7 = rk.toInt ∧ (rk.toInt = 0 → z.toInt = rJ hp1 83 0)) (fun R hR => k_270E (d := 595) hI1.1 hI1.2.1 r1 (fun z hp2 a1 a2 a3 a4 a5 => hR z hp2 ⟨a1, a2, a3, st_join2 o1 a5 a3, a4.trans k1.symm, (fun e0 => by have u := (a5.resolve_left (fun z => z.1 (k1.symm.trans e0))).2.2; have v := (o1.resolve_left (fun z => z.1 (k1.symm.trans e0))).2.2; omega)⟩)) (fun rb hp2 g2 => Or.inl ⟨_, rfl, ?_⟩))
  refine cistK 723 (lI1 61 rfl) rfl rfl ?_
  refine cald 724 (lI1 62 rfl) rfl rfl ?_
  refine ccall (kd := 0) (t := 0) [.ref 66] [] g2.1 (lI1 63 rfl) (Or.inl ⟨_, rfl, rfl, by decide, by decide⟩) rfl rfl rfl ⟨rfl, rfl, rfl⟩ rfl (recv66 g2.1 _) rfl (qK (Φ := fun z hp3 => hp3 = hp2 ∧ z.toInt = rN hp2 66 7) (fun R hR => k_195 (d := 599) g2.1 (fun z e => hR z hp2 ⟨rfl, e⟩)) (fun rt hp3 g3 => Or.inl ⟨_, rfl, ?_⟩))
  obtain ⟨rfl, g3⟩ := g3
  have k2 := g2.2.2.2.2.1
  have j2 : rJ hp3 83 0 = rJ hp1 83 0 := rJ_eq (g2.2.2.1 83 0 rfl)
  refine cild2 729 (lI1 64 rfl) rfl rfl ?_
  refine ccmp_eq 732 (lI1 65 rfl) rfl (fun c1 => ?_) (fun c1 => ?_)
  · refine cild2 736 (lI1 68 rfl) rfl rfl ?_
    refine cif_ne 739 (lI1 69 rfl) rfl (fun c2 => ?_) (fun c2 => ?_)
    · refine cgoto (lI1 79 rfl) ?_
      exact cdrop (fun k v e => by match k, e with | 0, e => exact e | 1, e => exact e | 2, e => exact e | 3, e => exact e | 4, e => exact e | k9 + 5, e => cases e) (cmono (hN _ ⟨law_rf hI1 g2.1 g2.2.1 g2.2.2.1, g2.2.2.2.1⟩) (fun y hp9 m9 s9 h9 => ⟨h9.1, by have := h9.2.1; omega, by have := h9.2.2; omega⟩))
    · refine cald 740 (lI1 70 rfl) rfl rfl ?_
      refine ccst 741 (0) (lI1 71 rfl) rfl (by decide) (fun z8 h8 => ?_)
      refine claldE 742 g2.1 (lI1 72 rfl) rfl h8 (fun z9 h9 => ?_)
      refine cild2 744 (lI1 73 rfl) rfl rfl ?_
      refine ci2lE 745 (lI1 74 rfl) rfl (fun u9 v9 => ?_)
      refine clcmp 746 (lI1 75 rfl) rfl (fun q9 s9 => ?_)
      refine cif_eq 749 (lI1 76 rfl) rfl (fun c3 => ?_) (fun c3 => ?_)
      · refine cgoto (lI1 79 rfl) ?_
        exact cdrop (fun k v e => by match k, e with | 0, e => exact e | 1, e => exact e | 2, e => exact e | 3, e => exact e | 4, e => exact e | k9 + 5, e => cases e) (cmono (hN _ ⟨law_rf hI1 g2.1 g2.2.1 g2.2.2.1, g2.2.2.2.1⟩) (fun y hp9 m9 s9 h9 => ⟨h9.1, by have := h9.2.1; omega, by have := h9.2.2; omega⟩))
      · have := g2.2.2.2.2.2 c2
        omega
  · omega
