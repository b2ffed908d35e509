/-! ===== the compared call ===== -/
theorem u195 : bUp 0 am_m195.1 = true := by decide +kernel
/-- what the reference says was thrown -/
theorem k_195 {d : Nat} {hp : amH} {R : xQ} (hH : bHk 84 bTT hp) (hR : ∀ z : Int32, z.toInt = rN hp 66 7 → R (.inl (some (.int z))) hp) : xK d 195 [.ref 66] hp R := by
  refine xin (M := am_m195) rfl rfl rfl ?_
  refine xald 1 ⟨u195, _, rfl⟩ rfl rfl ?_
  refine xgetI 4 hH ⟨u195, _, rfl⟩ rfl rfl (fun z1 h1 => ?_)
  exact xret ⟨u195, _, rfl⟩ rfl (hR _ h1)
theorem cs13J {sc : List Int32} {b : Nat} {i : Int32} {hp : amH} (i0 : 0 ≤ i.toInt) (i1 : i.toInt + 6 ≤ (sc.length : Int)) (hL : sc.length ≤ 100000) (hI : lawJ hp) (hN : ∀ hp1, lawJ hp1 → lV sc b 2284 i hp1) : lV sc (b + 1) 726 i hp := by
  obtain ⟨⟨V, T, ty⟩, n, h, sv, c, r⟩ := hI.2
  refine cald 727 (lI1 63 rfl) rfl rfl ?_
  refine cald 728 (lI1 64 rfl) rfl rfl ?_
  refine cild2 730 (lI1 65 rfl) rfl rfl ?_
  refine ccst 731 (1) (lI1 66 rfl) rfl (by decide) (fun z727 h727 => ?_)
  refine cadd 732 _ (lI1 67 rfl) rfl rfl (by omega) (by omega) (fun y727 g727 => ?_)
  refine csclE 733 (lI1 68 rfl) rfl (by omega) (by omega) (fun w727 e727 => ?_)
  refine cald 734 (lI1 69 rfl) rfl rfl ?_
  refine cild2 736 (lI1 70 rfl) rfl rfl ?_
  refine ccst 737 (2) (lI1 71 rfl) rfl (by decide) (fun z733 h733 => ?_)
  refine cadd 738 _ (lI1 72 rfl) rfl rfl (by omega) (by omega) (fun y733 g733 => ?_)
  refine csclE 739 (lI1 73 rfl) rfl (by omega) (by omega) (fun w733 e733 => ?_)
  refine cald 740 (lI1 74 rfl) rfl rfl ?_
  refine cild2 742 (lI1 75 rfl) rfl rfl ?_
  refine ccst 743 (3) (lI1 76 rfl) rfl (by decide) (fun z739 h739 => ?_)
  refine cadd 744 _ (lI1 77 rfl) rfl rfl (by omega) (by omega) (fun y739 g739 => ?_)
  refine csclE 745 (lI1 78 rfl) rfl (by omega) (by omega) (fun w739 e739 => ?_)
  refine cald 746 (lI1 79 rfl) rfl rfl ?_
  refine ccall (kd := 1) (t := 0) [.ref 0, .int _, .int _, .int _, .ref 83] [] hI.1.1 (lI1 80 rfl) (Or.inr ⟨_, rfl, rfl, by decide⟩) rfl rfl rfl ⟨rfl, rfl, rfl⟩ rfl rfl rfl (h355J (d := 579) hI.1 c r (fun rk hp1 mc ms hI1 r1 k1 o1 hmc hms => Or.inl ⟨_, rfl, ?_⟩))
  refine cistK 751 (lI1 81 rfl) rfl rfl ?_
  refine cald 752 (lI1 82 rfl) rfl rfl ?_
  refine cald 753 (lI1 83 rfl) rfl rfl ?_
  refine cild2 755 (lI1 84 rfl) rfl rfl ?_
  refine ccst 756 (1) (lI1 85 rfl) rfl (by decide) (fun z752 h752 => ?_)
  refine cadd 757 _ (lI1 86 rfl) rfl rfl (by omega) (by omega) (fun y752 g752 => ?_)
  refine csclE 758 (lI1 87 rfl) rfl (by omega) (by omega) (fun w752 e752 => ?_)
  refine cald 759 (lI1 88 rfl) rfl rfl ?_
  refine cild2 761 (lI1 89 rfl) rfl rfl ?_
  refine ccst 762 (2) (lI1 90 rfl) rfl (by decide) (fun z758 h758 => ?_)
  refine cadd 763 _ (lI1 91 rfl) rfl rfl (by omega) (by omega) (fun y758 g758 => ?_)
  refine csclE 764 (lI1 92 rfl) rfl (by omega) (by omega) (fun w758 e758 => ?_)
  refine cald 765 (lI1 93 rfl) rfl rfl ?_
  refine cild2 767 (lI1 94 rfl) rfl rfl ?_
  refine ccst 768 (3) (lI1 95 rfl) rfl (by decide) (fun z764 h764 => ?_)
  refine cadd 769 _ (lI1 96 rfl) rfl rfl (by omega) (by omega) (fun y764 g764 => ?_)
  refine csclE 770 (lI1 97 rfl) rfl (by omega) (by omega) (fun w764 e764 => ?_)
  have ew752 : w752 = w727 := by rw [e752, e727, show y752.toInt = y727.toInt by omega]
  subst ew752
  have ew758 : w758 = w733 := by rw [e758, e733, show y758.toInt = y733.toInt by omega]
  subst ew758
  have ew764 : w764 = w739 := by rw [e764, e739, show y764.toInt = y739.toInt by omega]
  subst ew764
  refine ccall (kd := 0) (t := 0) [.ref 66, .int _, .int _, .int _] [] hI1.1 (lI1 98 rfl) (Or.inl ⟨_, rfl, rfl, by decide, by decide⟩) rfl rfl rfl ⟨rfl, rfl, rfl⟩ rfl (recv66 hI1.1 _) rfl (qK (Φ := fun z hp2 => bHk 84 bTT hp2 ∧ P0 hp2 ∧ bFr wM hp1 hp2 ∧ stS hp2 ∧ rN hp2 66 7 = rk.toInt ∧ (rk.toInt = 0 → z.toInt = rJ hp1 83 0)) (fun R hR => k_272E (d := 595) hI1.1 hI1.2.1 r1 (fun z hp2 a1 a2 a3 a4 a5 => hR z hp2 ⟨a1, a2, a3, st_join2 o1 a5 a3, a4.trans k1.symm, (fun e0 => by have u := (a5.resolve_left (fun z => z.1 (k1.symm.trans e0))).2.2; have v := (o1.resolve_left (fun z => z.1 (k1.symm.trans e0))).2.2; omega)⟩)) (fun rb hp2 g2 => Or.inl ⟨_, rfl, ?_⟩))
  refine cistK 775 (lI1 99 rfl) rfl rfl ?_
  refine cald 776 (lI1 100 rfl) rfl rfl ?_
  refine ccall (kd := 0) (t := 0) [.ref 66] [] g2.1 (lI1 101 rfl) (Or.inl ⟨_, rfl, rfl, by decide, by decide⟩) rfl rfl rfl ⟨rfl, rfl, rfl⟩ rfl (recv66 g2.1 _) rfl (qK (Φ := fun z hp3 => hp3 = hp2 ∧ z.toInt = rN hp2 66 7) (fun R hR => k_195 (d := 599) g2.1 (fun z e => hR z hp2 ⟨rfl, e⟩)) (fun rt hp3 g3 => Or.inl ⟨_, rfl, ?_⟩))
  obtain ⟨rfl, g3⟩ := g3
  have k2 := g2.2.2.2.2.1
  have j2 : rJ hp3 83 0 = rJ hp1 83 0 := rJ_eq (g2.2.2.1 83 0 rfl)
  refine cild2 781 (lI1 102 rfl) rfl rfl ?_
  refine ccmp_eq 784 (lI1 103 rfl) rfl (fun c1 => ?_) (fun c1 => ?_)
  · refine cild2 788 (lI1 106 rfl) rfl rfl ?_
    refine cif_ne 791 (lI1 107 rfl) rfl (fun c2 => ?_) (fun c2 => ?_)
    · refine cgoto (lI1 117 rfl) ?_
      exact cdrop (fun k v e => by match k, e with | 0, e => exact e | 1, e => exact e | 2, e => exact e | 3, e => exact e | 4, e => exact e | k9 + 5, e => cases e) (cmono (hN _ ⟨law_rf hI1 g2.1 g2.2.1 g2.2.2.1, g2.2.2.2.1⟩) (fun y hp9 m9 s9 h9 => ⟨h9.1, by have := h9.2.1; omega, by have := h9.2.2; omega⟩))
    · refine cald 792 (lI1 108 rfl) rfl rfl ?_
      refine ccst 793 (0) (lI1 109 rfl) rfl (by decide) (fun z8 h8 => ?_)
      refine claldE 794 g2.1 (lI1 110 rfl) rfl h8 (fun z9 h9 => ?_)
      refine cild2 796 (lI1 111 rfl) rfl rfl ?_
      refine ci2lE 797 (lI1 112 rfl) rfl (fun u9 v9 => ?_)
      refine clcmp 798 (lI1 113 rfl) rfl (fun q9 s9 => ?_)
      refine cif_eq 801 (lI1 114 rfl) rfl (fun c3 => ?_) (fun c3 => ?_)
      · refine cgoto (lI1 117 rfl) ?_
        exact cdrop (fun k v e => by match k, e with | 0, e => exact e | 1, e => exact e | 2, e => exact e | 3, e => exact e | 4, e => exact e | k9 + 5, e => cases e) (cmono (hN _ ⟨law_rf hI1 g2.1 g2.2.1 g2.2.2.1, g2.2.2.2.1⟩) (fun y hp9 m9 s9 h9 => ⟨h9.1, by have := h9.2.1; omega, by have := h9.2.2; omega⟩))
      · have := g2.2.2.2.2.2 c2
        omega
  · omega
