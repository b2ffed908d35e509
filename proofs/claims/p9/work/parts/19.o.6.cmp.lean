/-! ===== the compared call ===== -/
theorem u195 : bUp 0 am_m195.1 = true := by decide +kernel
/-- what the reference says was thrown -/
theorem k_195 {d : Nat} {hp : amH} {R : xQ} (hH : bHk 84 bTT hp) (hR : ∀ z : Int32, z.toInt = rN hp 66 7 → R (.inl (some (.int z))) hp) : xK d 195 [.ref 66] hp R := by
  refine xin (M := am_m195) rfl rfl rfl ?_
  refine xald 1 ⟨u195, _, rfl⟩ rfl rfl ?_
  refine xgetI 4 hH ⟨u195, _, rfl⟩ rfl rfl (fun z1 h1 => ?_)
  exact xret ⟨u195, _, rfl⟩ rfl (hR _ h1)
theorem cs7J {sc : List Int32} {b : Nat} {i : Int32} {hp : amH} (i0 : 0 ≤ i.toInt) (i1 : i.toInt + 6 ≤ (sc.length : Int)) (hL : sc.length ≤ 100000) (hI : lawJ hp) (hN : ∀ hp1, lawJ hp1 → lV sc b 2284 i hp1) : lV sc (b + 1) 486 i hp := by
  obtain ⟨⟨V, T, ty⟩, n, h, sv, c, r⟩ := hI.2
  refine cald 487 (lI0 145 rfl) rfl rfl ?_
  refine cald 488 (lI0 146 rfl) rfl rfl ?_
  refine cild2 490 (lI0 147 rfl) rfl rfl ?_
  refine ccst 491 (1) (lI0 148 rfl) rfl (by decide) (fun z487 h487 => ?_)
  refine cadd 492 _ (lI0 149 rfl) rfl rfl (by omega) (by omega) (fun y487 g487 => ?_)
  refine csclE 493 (lI0 150 rfl) rfl (by omega) (by omega) (fun w487 e487 => ?_)
  refine cald 494 (lI0 151 rfl) rfl rfl ?_
  refine cild2 496 (lI0 152 rfl) rfl rfl ?_
  refine ccst 497 (2) (lI0 153 rfl) rfl (by decide) (fun z493 h493 => ?_)
  refine cadd 498 _ (lI0 154 rfl) rfl rfl (by omega) (by omega) (fun y493 g493 => ?_)
  refine csclE 499 (lI0 155 rfl) rfl (by omega) (by omega) (fun w493 e493 => ?_)
  refine cald 500 (lI0 156 rfl) rfl rfl ?_
  refine ccall (kd := 1) (t := 0) [.ref 0, .int _, .int _, .ref 83] [] hI.1.1 (lI0 157 rfl) (Or.inr ⟨_, rfl, rfl, by decide⟩) rfl rfl rfl ⟨rfl, rfl, rfl⟩ rfl rfl rfl (h349E (d := 579) hI.1 c r (fun rk hp1 mc ms hI1 r1 k1 o1 hmc hms => Or.inl ⟨_, rfl, ?_⟩))
  refine cistK 505 (lI0 158 rfl) rfl rfl ?_
  refine cald 506 (lI0 159 rfl) rfl rfl ?_
  refine cald 507 (lI0 160 rfl) rfl rfl ?_
  refine cild2 509 (lI0 161 rfl) rfl rfl ?_
  refine ccst 510 (1) (lI0 162 rfl) rfl (by decide) (fun z506 h506 => ?_)
  refine cadd 511 _ (lI0 163 rfl) rfl rfl (by omega) (by omega) (fun y506 g506 => ?_)
  refine csclE 512 (lI0 164 rfl) rfl (by omega) (by omega) (fun w506 e506 => ?_)
  refine cald 513 (lI0 165 rfl) rfl rfl ?_
  refine cild2 515 (lI0 166 rfl) rfl rfl ?_
  refine ccst 516 (2) (lI0 167 rfl) rfl (by decide) (fun z512 h512 => ?_)
  refine cadd 517 _ (lI0 168 rfl) rfl rfl (by omega) (by omega) (fun y512 g512 => ?_)
  refine csclE 518 (lI0 169 rfl) rfl (by omega) (by omega) (fun w512 e512 => ?_)
  have ew506 : w506 = w487 := by rw [e506, e487, show y506.toInt = y487.toInt by omega]
  subst ew506
  have ew512 : w512 = w493 := by rw [e512, e493, show y512.toInt = y493.toInt by omega]
  subst ew512
  refine ccall (kd := 0) (t := 0) [.ref 66, .int _, .int _] [] hI1.1 (lI0 170 rfl) (Or.inl ⟨_, rfl, rfl, by decide, by decide⟩) rfl rfl rfl ⟨rfl, rfl, rfl⟩ rfl (recv66 hI1.1 _) rfl (qK (Φ := fun z hp2 => bHk 84 bTT hp2 ∧ P0 hp2 ∧ bFr wM hp1 hp2 ∧ stS hp2 ∧ rN hp2 66 7 = rk.toInt ∧ (rk.toInt = 0 → z.toInt = rJ hp1 83 0)) (fun R hR => k_264E (d := 595) hI1.1 hI1.2.1 r1 (fun z hp2 a1 a2 a3 a4 a5 => hR z hp2 ⟨a1, a2, a3, st_join2 o1 a5 a3, a4.trans k1.symm, (fun e0 => by have u := (a5.resolve_left (fun z => z.1 (k1.symm.trans e0))).2.2; have v := (o1.resolve_left (fun z => z.1 (k1.symm.trans e0))).2.2; omega)⟩)) (fun rb hp2 g2 => Or.inl ⟨_, rfl, ?_⟩))
  refine cistK 523 (lI0 171 rfl) rfl rfl ?_
  refine cald 524 (lI0 172 rfl) rfl rfl ?_
  refine ccall (kd := 0) (t := 0) [.ref 66] [] g2.1 (lI0 173 rfl) (Or.inl ⟨_, rfl, rfl, by decide, by decide⟩) rfl rfl rfl ⟨rfl, rfl, rfl⟩ rfl (recv66 g2.1 _) rfl (qK (Φ := fun z hp3 => hp3 = hp2 ∧ z.toInt = rN hp2 66 7) (fun R hR => k_195 (d := 599) g2.1 (fun z e => hR z hp2 ⟨rfl, e⟩)) (fun rt hp3 g3 => Or.inl ⟨_, rfl, ?_⟩))
  obtain ⟨rfl, g3⟩ := g3
  have k2 := g2.2.2.2.2.1
  have j2 : rJ hp3 83 0 = rJ hp1 83 0 := rJ_eq (g2.2.2.1 83 0 rfl)
  refine cild2 529 (lI0 174 rfl) rfl rfl ?_
  refine ccmp_eq 532 (lI0 175 rfl) rfl (fun c1 => ?_) (fun c1 => ?_)
  · refine cild2 536 (lI0 178 rfl) rfl rfl ?_
    refine cif_ne 539 (lI0 179 rfl) rfl (fun c2 => ?_) (fun c2 => ?_)
    · refine cgoto (lI0 189 rfl) ?_
      exact cdrop (fun k v e => by match k, e with | 0, e => exact e | 1, e => exact e | 2, e => exact e | 3, e => exact e | 4, e => exact e | k9 + 5, e => cases e) (cmono (hN _ ⟨law_rf hI1 g2.1 g2.2.1 g2.2.2.1, g2.2.2.2.1⟩) (fun y hp9 m9 s9 h9 => ⟨h9.1, by have := h9.2.1; omega, by have := h9.2.2; omega⟩))
    · refine cald 540 (lI0 180 rfl) rfl rfl ?_
      refine ccst 541 (0) (lI0 181 rfl) rfl (by decide) (fun z8 h8 => ?_)
      refine claldE 542 g2.1 (lI0 182 rfl) rfl h8 (fun z9 h9 => ?_)
      refine cild2 544 (lI0 183 rfl) rfl rfl ?_
      refine ci2lE 545 (lI0 184 rfl) rfl (fun u9 v9 => ?_)
      refine clcmp 546 (lI0 185 rfl) rfl (fun q9 s9 => ?_)
      refine cif_eq 549 (lI0 186 rfl) rfl (fun c3 => ?_) (fun c3 => ?_)
      · refine cgoto (lI0 189 rfl) ?_
        exact cdrop (fun k v e => by match k, e with | 0, e => exact e | 1, e => exact e | 2, e => exact e | 3, e => exact e | 4, e => exact e | k9 + 5, e => cases e) (cmono (hN _ ⟨law_rf hI1 g2.1 g2.2.1 g2.2.2.1, g2.2.2.2.1⟩) (fun y hp9 m9 s9 h9 => ⟨h9.1, by have := h9.2.1; omega, by have := h9.2.2; omega⟩))
      · have := g2.2.2.2.2.2 c2
        omega
  · omega
