/-! ===== the compared call ===== -/
theorem u195 : bUp 0 am_m195.1 = true := by decide +kernel
/-- what the reference says was thrown -/
theorem k_195 {d : Nat} {hp : amH} {R : xQ} (hH : bHk 84 bTT hp) (hR : ∀ z : Int32, z.toInt = rN hp 66 7 → R (.inl (some (.int z))) hp) : xK d 195 [.ref 66] hp R := by
  refine xin (M := am_m195) rfl rfl rfl ?_
  refine xald 1 ⟨u195, _, rfl⟩ rfl rfl ?_
  refine xgetI 4 hH ⟨u195, _, rfl⟩ rfl rfl (fun z1 h1 => ?_)
  exact xret ⟨u195, _, rfl⟩ rfl (hR _ h1)
theorem cs5J {sc : List Int32} {b : Nat} {i : Int32} {hp : amH} (i0 : 0 ≤ i.toInt) (i1 : i.toInt + 6 ≤ (sc.length : Int)) (hL : sc.length ≤ 100000) (hI : lawJ hp) (hN : ∀ hp1, lawJ hp1 → lV sc b 2284 i hp1) : lV sc (b + 1) 445 i hp := by
  obtain ⟨⟨V, T, ty⟩, n, h, sv, c, r⟩ := hI.2
  refine cald 446 (lI0 120 rfl) rfl rfl ?_
  refine cald 447 (lI0 121 rfl) rfl rfl ?_
  refine cild2 449 (lI0 122 rfl) rfl rfl ?_
  refine ccst 450 (1) (lI0 123 rfl) rfl (by decide) (fun z446 h446 => ?_)
  refine cadd 451 _ (lI0 124 rfl) rfl rfl (by omega) (by omega) (fun y446 g446 => ?_)
  refine csclE 452 (lI0 125 rfl) rfl (by omega) (by omega) (fun w446 e446 => ?_)
  refine cald 453 (lI0 126 rfl) rfl rfl ?_
  refine ccall (kd := 1) (t := 0) [.ref 0, .int _, .ref 83] [] hI.1.1 (lI0 127 rfl) (Or.inr ⟨_, rfl, rfl, by decide⟩) rfl rfl rfl ⟨rfl, rfl, rfl⟩ rfl rfl rfl (h348E (d := 579) hI.1 c r (fun rk hp1 mc ms hI1 r1 k1 o1 hmc hms => Or.inl ⟨_, rfl, ?_⟩))
  refine cistK 458 (lI0 128 rfl) rfl rfl ?_
  refine cald 459 (lI0 129 rfl) rfl rfl ?_
  refine cald 460 (lI0 130 rfl) rfl rfl ?_
  refine cild2 462 (lI0 131 rfl) rfl rfl ?_
  refine ccst 463 (1) (lI0 132 rfl) rfl (by decide) (fun z459 h459 => ?_)
  refine cadd 464 _ (lI0 133 rfl) rfl rfl (by omega) (by omega) (fun y459 g459 => ?_)
  refine csclE 465 (lI0 134 rfl) rfl (by omega) (by omega) (fun w459 e459 => ?_)
  have ew459 : w459 = w446 := by rw [e459, e446, show y459.toInt = y446.toInt by omega]
  subst ew459
  refine ccall (kd := 0) (t := 0) [.ref 66, .int _] [] hI1.1 (lI0 135 rfl) (Or.inl ⟨_, rfl, rfl, by decide, by decide⟩) rfl rfl rfl ⟨rfl, rfl, rfl⟩ rfl (recv66 hI1.1 _) rfl (qK (Φ := fun z hp2 => bHk 84 bTT hp2 ∧ P0 hp2 ∧ bFr wM hp1 hp2 ∧ stS hp2 ∧ rN hp2 66 7 = rk.toInt ∧ (rk.toInt = 0 → z.toInt = rJ hp1 83 0)) (fun R hR => k_260E (d := 593) hI1.1 hI1.2.1 r1 (fun z hp2 a1 a2 a3 a4 a5 => hR z hp2 ⟨a1, a2, a3, st_join2 o1 a5 a3, a4.trans k1.symm, (fun e0 => by have u := (a5.resolve_left (fun z => z.1 (k1.symm.trans e0))).2.2; have v := (o1.resolve_left (fun z => z.1 (k1.symm.trans e0))).2.2; omega)⟩)) (fun rb hp2 g2 => Or.inl ⟨_, rfl, ?_⟩))
  refine cistK 470 (lI0 136 rfl) rfl rfl ?_
  refine cald 471 (lI0 137 rfl) rfl rfl ?_
  refine ccall (kd := 0) (t := 0) [.ref 66] [] g2.1 (lI0 138 rfl) (Or.inl ⟨_, rfl, rfl, by decide, by decide⟩) rfl rfl rfl ⟨rfl, rfl, rfl⟩ rfl (recv66 g2.1 _) rfl (qK (Φ := fun z hp3 => hp3 = hp2 ∧ z.toInt = rN hp2 66 7) (fun R hR => k_195 (d := 599) g2.1 (fun z e => hR z hp2 ⟨rfl, e⟩)) (fun rt hp3 g3 => Or.inl ⟨_, rfl, ?_⟩))
  obtain ⟨rfl, g3⟩ := g3
  have k2 := g2.2.2.2.2.1
  have j2 : rJ hp3 83 0 = rJ hp1 83 0 := rJ_eq (g2.2.2.1 83 0 rfl)
  refine cild2 476 (lI0 139 rfl) rfl rfl ?_
  refine ccmp_eq 479 (lI0 140 rfl) rfl (fun c1 => ?_) (fun c1 => ?_)
  · refine cild2 483 (lI0 143 rfl) rfl rfl ?_
    refine cif_ne 486 (lI0 144 rfl) rfl (fun c2 => ?_) (fun c2 => ?_)
    · refine cgoto (lI0 154 rfl) ?_
      exact cdrop (fun k v e => by match k, e with | 0, e => exact e | 1, e => exact e | 2, e => exact e | 3, e => exact e | 4, e => exact e | k9 + 5, e => cases e) (cmono (hN _ ⟨law_rf hI1 g2.1 g2.2.1 g2.2.2.1, g2.2.2.2.1⟩) (fun y hp9 m9 s9 h9 => ⟨h9.1, by have := h9.2.1; omega, by have := h9.2.2; omega⟩))
    · refine cald 487 (lI0 145 rfl) rfl rfl ?_
      refine ccst 488 (0) (lI0 146 rfl) rfl (by decide) (fun z8 h8 => ?_)
      refine claldE 489 g2.1 (lI0 147 rfl) rfl h8 (fun z9 h9 => ?_)
      refine cild2 491 (lI0 148 rfl) rfl rfl ?_
      refine ci2lE 492 (lI0 149 rfl) rfl (fun u9 v9 => ?_)
      refine clcmp 493 (lI0 150 rfl) rfl (fun q9 s9 => ?_)
      refine cif_eq 496 (lI0 151 rfl) rfl (fun c3 => ?_) (fun c3 => ?_)
      · refine cgoto (lI0 154 rfl) ?_
        exact cdrop (fun k v e => by match k, e with | 0, e => exact e | 1, e => exact e | 2, e => exact e | 3, e => exact e | 4, e => exact e | k9 + 5, e => cases e) (cmono (hN _ ⟨law_rf hI1 g2.1 g2.2.1 g2.2.2.1, g2.2.2.2.1⟩) (fun y hp9 m9 s9 h9 => ⟨h9.1, by have := h9.2.1; omega, by have := h9.2.2; omega⟩))
      · have := g2.2.2.2.2.2 c2
        omega
  · omega
