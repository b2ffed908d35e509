/-! ===== the compared call ===== -/
theorem u195 : bUp 0 am_m195.1 = true := by decide +kernel
/-- what the reference says was thrown -/
theorem k_195 {d : Nat} {hp : amH} {R : xQ} (hH : bHk 84 bTT hp) (hR : ∀ z : Int32, z.toInt = rN hp 66 7 → R (.inl (some (.int z))) hp) : xK d 195 [.ref 66] hp R := by
  refine xin (M := am_m195) rfl rfl rfl ?_
  refine xald 1 ⟨u195, _, rfl⟩ rfl rfl ?_
  refine xgetI 4 hH ⟨u195, _, rfl⟩ rfl rfl (fun z1 h1 => ?_)
  exact xret ⟨u195, _, rfl⟩ rfl (hR _ h1)
theorem cs10J {sc : List Int32} {b : Nat} {i : Int32} {hp : amH} (i0 : 0 ≤ i.toInt) (i1 : i.toInt + 6 ≤ (sc.length : Int)) (hL : sc.length ≤ 100000) (hI : lawJ hp) (hN : ∀ hp1, lawJ hp1 → lV sc b 2284 i hp1) : lV sc (b + 1) 618 i hp := by
  obtain ⟨⟨V, T, ty⟩, n, h, sv, c, r⟩ := hI.2
  refine cald 619 (lI0 239 rfl) rfl rfl ?_
  refine cald 620 (lI0 240 rfl) rfl rfl ?_
  refine cild2 622 (lI0 241 rfl) rfl rfl ?_
  refine ccst 623 (1) (lI0 242 rfl) rfl (by decide) (fun z619 h619 => ?_)
  refine cadd 624 _ (lI0 243 rfl) rfl rfl (by omega) (by omega) (fun y619 g619 => ?_)
  refine csclE 625 (lI0 244 rfl) rfl (by omega) (by omega) (fun w619 e619 => ?_)
  refine cald 626 (lI0 245 rfl) rfl rfl ?_
  refine ccall (kd := 1) (t := 0) [.ref 0, .int _, .ref 83] [] hI.1.1 (lI0 246 rfl) (Or.inr ⟨_, rfl, rfl, by decide⟩) rfl rfl rfl ⟨rfl, rfl, rfl⟩ rfl rfl rfl (h352E (d := 579) hI.1 c r (fun rk hp1 mc ms hI1 r1 k1 o1 hmc hms => Or.inl ⟨_, rfl, ?_⟩))
  refine cistK 631 (lI0 247 rfl) rfl rfl ?_
  refine cald 632 (lI0 248 rfl) rfl rfl ?_
  refine cald 633 (lI0 249 rfl) rfl rfl ?_
  refine cild2 635 (lI1 0 rfl) rfl rfl ?_
  refine ccst 636 (1) (lI1 1 rfl) rfl (by decide) (fun z632 h632 => ?_)
  refine cadd 637 _ (lI1 2 rfl) rfl rfl (by omega) (by omega) (fun y632 g632 => ?_)
  refine csclE 638 (lI1 3 rfl) rfl (by omega) (by omega) (fun w632 e632 => ?_)
  have ew632 : w632 = w619 := by rw [e632, e619, show y632.toInt = y619.toInt by omega]
  subst ew632
  refine ccall (kd := 0) (t := 0) [.ref 66, .int _] [] hI1.1 (lI1 4 rfl) (Or.inl ⟨_, rfl, rfl, by decide, by decide⟩) rfl rfl rfl ⟨rfl, rfl, rfl⟩ rfl (recv66 hI1.1 _) rfl (qK (Φ := fun z hp2 => bHk 84 bTT hp2 ∧ P0 hp2 ∧ bFr wM hp1 hp2 ∧ stS hp2 ∧ rN hp2 66 7 = rk.toInt ∧ (rk.toInt = 0 → z.toInt = rJ hp1 83 0)) (fun R hR => k_267E (d := 596) hI1.1 hI1.2.1 r1 (fun z hp2 a1 a2 a3 a4 a5 => hR z hp2 ⟨a1, a2, a3, st_join2 o1 a5 a3, a4.trans k1.symm, (fun e0 => by have u := (a5.resolve_left (fun z => z.1 (k1.symm.trans e0))).2.2; have v := (o1.resolve_left (fun z => z.1 (k1.symm.trans e0))).2.2; omega)⟩)) (fun rb hp2 g2 => Or.inl ⟨_, rfl, ?_⟩))
  refine cistK 643 (lI1 5 rfl) rfl rfl ?_
  refine cald 644 (lI1 6 rfl) rfl rfl ?_
  refine ccall (kd := 0) (t := 0) [.ref 66] [] g2.1 (lI1 7 rfl) (Or.inl ⟨_, rfl, rfl, by decide, by decide⟩) rfl rfl rfl ⟨rfl, rfl, rfl⟩ rfl (recv66 g2.1 _) rfl (qK (Φ := fun z hp3 => hp3 = hp2 ∧ z.toInt = rN hp2 66 7) (fun R hR => k_195 (d := 599) g2.1 (fun z e => hR z hp2 ⟨rfl, e⟩)) (fun rt hp3 g3 => Or.inl ⟨_, rfl, ?_⟩))
  obtain ⟨rfl, g3⟩ := g3
  have k2 := g2.2.2.2.2.1
  have j2 : rJ hp3 83 0 = rJ hp1 83 0 := rJ_eq (g2.2.2.1 83 0 rfl)
  refine cild2 649 (lI1 8 rfl) rfl rfl ?_
  refine ccmp_eq 652 (lI1 9 rfl) rfl (fun c1 => ?_) (fun c1 => ?_)
  · refine cild2 656 (lI1 12 rfl) rfl rfl ?_
    refine cif_ne 659 (lI1 13 rfl) rfl (fun c2 => ?_) (fun c2 => ?_)
    · refine cgoto (lI1 23 rfl) ?_
      exact cdrop (fun k v e => by match k, e with | 0, e => exact e | 1, e => exact e | 2, e => exact e | 3, e => exact e | 4, e => exact e | k9 + 5, e => cases e) (cmono (hN _ ⟨law_rf hI1 g2.1 g2.2.1 g2.2.2.1, g2.2.2.2.1⟩) (fun y hp9 m9 s9 h9 => ⟨h9.1, by have := h9.2.1; omega, by have := h9.2.2; omega⟩))
    · refine cald 660 (lI1 14 rfl) rfl rfl ?_
      refine ccst 661 (0) (lI1 15 rfl) rfl (by decide) (fun z8 h8 => ?_)
      refine claldE 662 g2.1 (lI1 16 rfl) rfl h8 (fun z9 h9 => ?_)
      refine cild2 664 (lI1 17 rfl) rfl rfl ?_
      refine ci2lE 665 (lI1 18 rfl) rfl (fun u9 v9 => ?_)
      refine clcmp 666 (lI1 19 rfl) rfl (fun q9 s9 => ?_)
      refine cif_eq 669 (lI1 20 rfl) rfl (fun c3 => ?_) (fun c3 => ?_)
      · refine cgoto (lI1 23 rfl) ?_
        exact cdrop (fun k v e => by match k, e with | 0, e => exact e | 1, e => exact e | 2, e => exact e | 3, e => exact e | 4, e => exact e | k9 + 5, e => cases e) (cmono (hN _ ⟨law_rf hI1 g2.1 g2.2.1 g2.2.2.1, g2.2.2.2.1⟩) (fun y hp9 m9 s9 h9 => ⟨h9.1, by have := h9.2.1; omega, by have := h9.2.2; omega⟩))
      · have := g2.2.2.2.2.2 c2
        omega
  · omega
