/-! ===== the compared call ===== -/
theorem u195 : bUp 0 am_m195.1 = true := by decide +kernel
/-- what the reference says was thrown -/
theorem k_195 {d : Nat} {hp : amH} {R : xQ} (hH : bHk 84 bTT hp) (hR : ∀ z : Int32, z.toInt = rN hp 66 7 → R (.inl (some (.int z))) hp) : xK d 195 [.ref 66] hp R := by
  refine xin (M := am_m195) rfl rfl rfl ?_
  refine xald 1 ⟨u195, _, rfl⟩ rfl rfl ?_
  refine xgetI 4 hH ⟨u195, _, rfl⟩ rfl rfl (fun z1 h1 => ?_)
  exact xret ⟨u195, _, rfl⟩ rfl (hR _ h1)
theorem cs8J {sc : List Int32} {b : Nat} {i : Int32} {hp : amH} (i0 : 0 ≤ i.toInt) (i1 : i.toInt + 6 ≤ (sc.length : Int)) (hL : sc.length ≤ 100000) (hI : lawJ hp) (hN : ∀ hp1, lawJ hp1 → lV sc b 2284 i hp1) : lV sc (b + 1) 526 i hp := by
  obtain ⟨⟨V, T, ty⟩, n, h, sv, c, r⟩ := hI.2
  refine cald 527 (lI0 173 rfl) rfl rfl ?_
  refine cald 528 (lI0 174 rfl) rfl rfl ?_
  refine cild2 530 (lI0 175 rfl) rfl rfl ?_
  refine ccst 531 (1) (lI0 176 rfl) rfl (by decide) (fun z527 h527 => ?_)
  refine cadd 532 _ (lI0 177 rfl) rfl rfl (by omega) (by omega) (fun y527 g527 => ?_)
  refine csclE 533 (lI0 178 rfl) rfl (by omega) (by omega) (fun w527 e527 => ?_)
  refine cald 534 (lI0 179 rfl) rfl rfl ?_
  refine cild2 536 (lI0 180 rfl) rfl rfl ?_
  refine ccst 537 (2) (lI0 181 rfl) rfl (by decide) (fun z533 h533 => ?_)
  refine cadd 538 _ (lI0 182 rfl) rfl rfl (by omega) (by omega) (fun y533 g533 => ?_)
  refine csclE 539 (lI0 183 rfl) rfl (by omega) (by omega) (fun w533 e533 => ?_)
  refine cald 540 (lI0 184 rfl) rfl rfl ?_
  refine cild2 542 (lI0 185 rfl) rfl rfl ?_
  refine ccst 543 (3) (lI0 186 rfl) rfl (by decide) (fun z539 h539 => ?_)
  refine cadd 544 _ (lI0 187 rfl) rfl rfl (by omega) (by omega) (fun y539 g539 => ?_)
  refine csclE 545 (lI0 188 rfl) rfl (by omega) (by omega) (fun w539 e539 => ?_)
  refine cald 546 (lI0 189 rfl) rfl rfl ?_
  refine ccall (kd := 1) (t := 0) [.ref 0, .int _, .int _, .int _, .ref 83] [] hI.1.1 (lI0 190 rfl) (Or.inr ⟨_, rfl, rfl, by decide⟩) rfl rfl rfl ⟨rfl, rfl, rfl⟩ rfl rfl rfl (h350E (d := 579) hI.1 c r (fun rk hp1 mc ms hI1 r1 k1 o1 hmc hms => Or.inl ⟨_, rfl, ?_⟩))
  refine cistK 551 (lI0 191 rfl) rfl rfl ?_
  refine cald 552 (lI0 192 rfl) rfl rfl ?_
  refine cald 553 (lI0 193 rfl) rfl rfl ?_
  refine cild2 555 (lI0 194 rfl) rfl rfl ?_
  refine ccst 556 (1) (lI0 195 rfl) rfl (by decide) (fun z552 h552 => ?_)
  refine cadd 557 _ (lI0 196 rfl) rfl rfl (by omega) (by omega) (fun y552 g552 => ?_)
  refine csclE 558 (lI0 197 rfl) rfl (by omega) (by omega) (fun w552 e552 => ?_)
  refine cald 559 (lI0 198 rfl) rfl rfl ?_
  refine cild2 561 (lI0 199 rfl) rfl rfl ?_
  refine ccst 562 (2) (lI0 200 rfl) rfl (by decide) (fun z558 h558 => ?_)
  refine cadd 563 _ (lI0 201 rfl) rfl rfl (by omega) (by omega) (fun y558 g558 => ?_)
  refine csclE 564 (lI0 202 rfl) rfl (by omega) (by omega) (fun w558 e558 => ?_)
  refine cald 565 (lI0 203 rfl) rfl rfl ?_
  refine cild2 567 (lI0 204 rfl) rfl rfl ?_
  refine ccst 568 (3) (lI0 205 rfl) rfl (by decide) (fun z564 h564 => ?_)
  refine cadd 569 _ (lI0 206 rfl) rfl rfl (by omega) (by omega) (fun y564 g564 => ?_)
  refine csclE 570 (lI0 207 rfl) rfl (by omega) (by omega) (fun w564 e564 => ?_)
  have ew552 : w552 = w527 := by rw [e552, e527, show y552.toInt = y527.toInt by omega]
  subst ew552
  have ew558 : w558 = w533 := by rw [e558, e533, show y558.toInt = y533.toInt by omega]
  subst ew558
  have ew564 : w564 = w539 := by rw [e564, e539, show y564.toInt = y539.toInt by omega]
  subst ew564
  refine ccall (kd := 0) (t := 0) [.ref 66, .int _, .int _, .int _] [] hI1.1 (lI0 208 rfl) (Or.inl ⟨_, rfl, rfl, by decide, by decide⟩) rfl rfl rfl ⟨rfl, rfl, rfl⟩ rfl (recv66 hI1.1 _) rfl (qK (Φ := fun z hp2 => bHk 84 bTT hp2 ∧ P0 hp2 ∧ bFr wM hp1 hp2 ∧ stS hp2 ∧ rN hp2 66 7 = rk.toInt ∧ (rk.toInt = 0 → z.toInt = rJ hp1 83 0)) (fun R hR => k_265E (d := 595) hI1.1 hI1.2.1 r1 (fun z hp2 a1 a2 a3 a4 a5 => hR z hp2 ⟨a1, a2, a3, st_join2 o1 a5 a3, a4.trans k1.symm, (fun e0 => by have u := (a5.resolve_left (fun z => z.1 (k1.symm.trans e0))).2.2; have v := (o1.resolve_left (fun z => z.1 (k1.symm.trans e0))).2.2; omega)⟩)) (fun rb hp2 g2 => Or.inl ⟨_, rfl, ?_⟩))
  refine cistK 575 (lI0 209 rfl) rfl rfl ?_
  refine cald 576 (lI0 210 rfl) rfl rfl ?_
  refine ccall (kd := 0) (t := 0) [.ref 66] [] g2.1 (lI0 211 rfl) (Or.inl ⟨_, rfl, rfl, by decide, by decide⟩) rfl rfl rfl ⟨rfl, rfl, rfl⟩ rfl (recv66 g2.1 _) rfl (qK (Φ := fun z hp3 => hp3 = hp2 ∧ z.toInt = rN hp2 66 7) (fun R hR => k_195 (d := 599) g2.1 (fun z e => hR z hp2 ⟨rfl, e⟩)) (fun rt hp3 g3 => Or.inl ⟨_, rfl, ?_⟩))
  obtain ⟨rfl, g3⟩ := g3
  have k2 := g2.2.2.2.2.1
  have j2 : rJ hp3 83 0 = rJ hp1 83 0 := rJ_eq (g2.2.2.1 83 0 rfl)
  refine cild2 581 (lI0 212 rfl) rfl rfl ?_
  refine ccmp_eq 584 (lI0 213 rfl) rfl (fun c1 => ?_) (fun c1 => ?_)
  · refine cild2 588 (lI0 216 rfl) rfl rfl ?_
    refine cif_ne 591 (lI0 217 rfl) rfl (fun c2 => ?_) (fun c2 => ?_)
    · refine cgoto (lI0 227 rfl) ?_
      exact cdrop (fun k v e => by match k, e with | 0, e => exact e | 1, e => exact e | 2, e => exact e | 3, e => exact e | 4, e => exact e | k9 + 5, e => cases e) (cmono (hN _ ⟨law_rf hI1 g2.1 g2.2.1 g2.2.2.1, g2.2.2.2.1⟩) (fun y hp9 m9 s9 h9 => ⟨h9.1, by have := h9.2.1; omega, by have := h9.2.2; omega⟩))
    · refine cald 592 (lI0 218 rfl) rfl rfl ?_
      refine ccst 593 (0) (lI0 219 rfl) rfl (by decide) (fun z8 h8 => ?_)
      refine claldE 594 g2.1 (lI0 220 rfl) rfl h8 (fun z9 h9 => ?_)
      refine cild2 596 (lI0 221 rfl) rfl rfl ?_
      refine ci2lE 597 (lI0 222 rfl) rfl (fun u9 v9 => ?_)
      refine clcmp 598 (lI0 223 rfl) rfl (fun q9 s9 => ?_)
      refine cif_eq 601 (lI0 224 rfl) rfl (fun c3 => ?_) (fun c3 => ?_)
      · refine cgoto (lI0 227 rfl) ?_
        exact cdrop (fun k v e => by match k, e with | 0, e => exact e | 1, e => exact e | 2, e => exact e | 3, e => exact e | 4, e => exact e | k9 + 5, e => cases e) (cmono (hN _ ⟨law_rf hI1 g2.1 g2.2.1 g2.2.2.1, g2.2.2.2.1⟩) (fun y hp9 m9 s9 h9 => ⟨h9.1, by have := h9.2.1; omega, by have := h9.2.2; omega⟩))
      · have := g2.2.2.2.2.2 c2
        omega
  · omega
