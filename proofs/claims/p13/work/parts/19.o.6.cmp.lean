/-! ===== the compared call ===== -/
theorem u195 : bUp 0 am_m195.1 = true := by decide +kernel
/-- what the reference says was thrown -/
theorem k_195 {d : Nat} {hp : amH} {R : xQ} (hH : bHk 84 bTT hp) (hR : ∀ z : Int32, z.toInt = rN hp 66 7 → R (.inl (some (.int z))) hp) : xK d 195 [.ref 66] hp R := by
  refine xin (M := am_m195) rfl rfl rfl ?_
  refine xald 1 ⟨u195, _, rfl⟩ rfl rfl ?_
  refine xgetI 4 hH ⟨u195, _, rfl⟩ rfl rfl (fun z1 h1 => ?_)
  exact xret ⟨u195, _, rfl⟩ rfl (hR _ h1)
theorem cs11J {sc : List Int32} {b : Nat} {i : Int32} {hp : amH} (i0 : 0 ≤ i.toInt) (i1 : i.toInt + 6 ≤ (sc.length : Int)) (hL : sc.length ≤ 100000) (hI : lawJ hp) (hN : ∀ hp1, lawJ hp1 → lV sc b 2284 i hp1) : lV sc (b + 1) 646 i hp := by
  obtain ⟨⟨V, T, ty⟩, n, h, sv, c, r⟩ := hI.2
  refine cald 647 (lI1 7 rfl) rfl rfl ?_
  refine cald 648 (lI1 8 rfl) rfl rfl ?_
  refine cild2 650 (lI1 9 rfl) rfl rfl ?_
  refine ccst 651 (1) (lI1 10 rfl) rfl (by decide) (fun z647 h647 => ?_)
  refine cadd 652 _ (lI1 11 rfl) rfl rfl (by omega) (by omega) (fun y647 g647 => ?_)
  refine csclE 653 (lI1 12 rfl) rfl (by omega) (by omega) (fun w647 e647 => ?_)
  refine cald 654 (lI1 13 rfl) rfl rfl ?_
  refine ccall (kd := 1) (t := 0) [.ref 0, .int _, .ref 83] [] hI.1.1 (lI1 14 rfl) (Or.inr ⟨_, rfl, rfl, by decide⟩) rfl rfl rfl ⟨rfl, rfl, rfl⟩ rfl rfl rfl (h353E (d := 579) hI.1 c r (fun rk hp1 mc ms hI1 r1 k1 o1 hmc hms => Or.inl ⟨_, rfl, ?_⟩))
  refine cistK 659 (lI1 15 rfl) rfl rfl ?_
  refine cald 660 (lI1 16 rfl) rfl rfl ?_
  refine cald 661 (lI1 17 rfl) rfl rfl ?_
  refine cild2 663 (lI1 18 rfl) rfl rfl ?_
  refine ccst 664 (1) (lI1 19 rfl) rfl (by decide) (fun z660 h660 => ?_)
  refine cadd 665 _ (lI1 20 rfl) rfl rfl (by omega) (by omega) (fun y660 g660 => ?_)
  refine csclE 666 (lI1 21 rfl) rfl (by omega) (by omega) (fun w660 e660 => ?_)
  have ew660 : w660 = w647 := by rw [e660, e647, show y660.toInt = y647.toInt by omega]
  subst ew660
  refine ccall (kd := 0) (t := 0) [.ref 66, .int _] [] hI1.1 (lI1 22 rfl) (Or.inl ⟨_, rfl, rfl, by decide, by decide⟩) rfl rfl rfl ⟨rfl, rfl, rfl⟩ rfl (recv66 hI1.1 _) rfl (qK (Φ := fun z hp2 => bHk 84 bTT hp2 ∧ P0 hp2 ∧ bFr wM hp1 hp2 ∧ stS hp2 ∧ rN hp2 66 7 = rk.toInt ∧ (rk.toInt = 0 → z.toInt = rJ hp1 83 0)) (fun R hR => k_268E (d := 596) hI1.1 hI1.2.1 r1 (fun z hp2 a1 a2 a3 a4 a5 => hR z hp2 ⟨a1, a2, a3, st_join2 o1 a5 a3, a4.trans k1.symm, (fun e0 => by have u := (a5.resolve_left (fun z => z.1 (k1.symm.trans e0))).2.2; have v := (o1.resolve_left (fun z => z.1 (k1.symm.trans e0))).2.2; omega)⟩)) (fun rb hp2 g2 => Or.inl ⟨_, rfl, ?_⟩))
  refine cistK 671 (lI1 23 rfl) rfl rfl ?_
  refine cald 672 (lI1 24 rfl) rfl rfl ?_
  refine ccall (kd := 0) (t := 0) [.ref 66] [] g2.1 (lI1 25 rfl) (Or.inl ⟨_, rfl, rfl, by decide, by decide⟩) rfl rfl rfl ⟨rfl, rfl, rfl⟩ rfl (recv66 g2.1 _) rfl (qK (Φ := fun z hp3 => hp3 = hp2 ∧ z.toInt = rN hp2 66 7) (fun R hR => k_195 (d := 599) g2.1 (fun z e => hR z hp2 ⟨rfl, e⟩)) (fun rt hp3 g3 => Or.inl ⟨_, rfl, ?_⟩))
  obtain ⟨rfl, g3⟩ := g3
  have k2 := g2.2.2.2.2.1
  have j2 : rJ hp3 83 0 = rJ hp1 83 0 := rJ_eq (g2.2.2.1 83 0 rfl)
  refine cild2 677 (lI1 26 rfl) rfl rfl ?_
  refine ccmp_eq 680 (lI1 27 rfl) rfl (fun c1 => ?_) (fun c1 => ?_)
  · refine cild2 684 (lI1 30 rfl) rfl rfl ?_
    refine cif_ne 687 (lI1 31 rfl) rfl (fun c2 => ?_) (fun c2 => ?_)
    · refine cgoto (lI1 41 rfl) ?_
      exact cdrop (fun k v e => by match k, e with | 0, e => exact e | 1, e => exact e | 2, e => exact e | 3, e => exact e | 4, e => exact e | k9 + 5, e => cases e) (cmono (hN _ ⟨law_rf hI1 g2.1 g2.2.1 g2.2.2.1, g2.2.2.2.1⟩) (fun y hp9 m9 s9 h9 => ⟨h9.1, by have := h9.2.1; omega, by have := h9.2.2; omega⟩))
    · refine cald 688 (lI1 32 rfl) rfl rfl ?_
      refine ccst 689 (0) (lI1 33 rfl) rfl (by decide) (fun z8 h8 => ?_)
      refine claldE 690 g2.1 (lI1 34 rfl) rfl h8 (fun z9 h9 => ?_)
      refine cild2 692 (lI1 35 rfl) rfl rfl ?_
      refine ci2lE 693 (lI1 36 rfl) rfl (fun u9 v9 => ?_)
      refine clcmp 694 (lI1 37 rfl) rfl (fun q9 s9 => ?_)
      refine cif_eq 697 (lI1 38 rfl) rfl (fun c3 => ?_) (fun c3 => ?_)
      · refine cgoto (lI1 41 rfl) ?_
        exact cdrop (fun k v e => by match k, e with | 0, e => exact e | 1, e => exact e | 2, e => exact e | 3, e => exact e | 4, e => exact e | k9 + 5, e => cases e) (cmono (hN _ ⟨law_rf hI1 g2.1 g2.2.1 g2.2.2.1, g2.2.2.2.1⟩) (fun y hp9 m9 s9 h9 => ⟨h9.1, by have := h9.2.1; omega, by have := h9.2.2; omega⟩))
      · have := g2.2.2.2.2.2 c2
        omega
  · omega
