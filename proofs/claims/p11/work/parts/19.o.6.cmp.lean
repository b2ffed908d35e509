/-! ===== the compared call ===== -/
theorem u195 : bUp 0 am_m195.1 = true := by decide +kernel
/-- what the reference says was thrown -/
theorem k_195 {d : Nat} {hp : amH} {R : xQ} (hH : bHk 84 bTT hp) (hR : ∀ z : Int32, z.toInt = rN hp 66 7 → R (.inl (some (.int z))) hp) : xK d 195 [.ref 66] hp R := by
  refine xin (M := am_m195) rfl rfl rfl ?_
  refine xald 1 ⟨u195, _, rfl⟩ rfl rfl ?_
  refine xgetI 4 hH ⟨u195, _, rfl⟩ rfl rfl (fun z1 h1 => ?_)
  exact xret ⟨u195, _, rfl⟩ rfl (hR _ h1)
theorem cs9J {sc : List Int32} {b : Nat} {i : Int32} {hp : amH} (i0 : 0 ≤ i.toInt) (i1 : i.toInt + 6 ≤ (sc.length : Int)) (hL : sc.length ≤ 100000) (hI : lawJ hp) (hN : ∀ hp1, lawJ hp1 → lV sc b 2284 i hp1) : lV sc (b + 1) 578 i hp := by
  obtain ⟨⟨V, T, ty⟩, n, h, sv, c, r⟩ := hI.2
  refine cald 579 (lI0 211 rfl) rfl rfl ?_
  refine cald 580 (lI0 212 rfl) rfl rfl ?_
  refine cild2 582 (lI0 213 rfl) rfl rfl ?_
  refine ccst 583 (1) (lI0 214 rfl) rfl (by decide) (fun z579 h579 => ?_)
  refine cadd 584 _ (lI0 215 rfl) rfl rfl (by omega) (by omega) (fun y579 g579 => ?_)
  refine csclE 585 (lI0 216 rfl) rfl (by omega) (by omega) (fun w579 e579 => ?_)
  refine cald 586 (lI0 217 rfl) rfl rfl ?_
  refine cild2 588 (lI0 218 rfl) rfl rfl ?_
  refine ccst 589 (2) (lI0 219 rfl) rfl (by decide) (fun z585 h585 => ?_)
  refine cadd 590 _ (lI0 220 rfl) rfl rfl (by omega) (by omega) (fun y585 g585 => ?_)
  refine csclE 591 (lI0 221 rfl) rfl (by omega) (by omega) (fun w585 e585 => ?_)
  refine cald 592 (lI0 222 rfl) rfl rfl ?_
  refine ccall (kd := 1) (t := 0) [.ref 0, .int _, .int _, .ref 83] [] hI.1.1 (lI0 223 rfl) (Or.inr ⟨_, rfl, rfl, by decide⟩) rfl rfl rfl ⟨rfl, rfl, rfl⟩ rfl rfl rfl (h351E (d := 579) hI.1 c r (fun rk hp1 mc ms hI1 r1 k1 o1 hmc hms => Or.inl ⟨_, rfl, ?_⟩))
  refine cistK 597 (lI0 224 rfl) rfl rfl ?_
  refine cald 598 (lI0 225 rfl) rfl rfl ?_
  refine cald 599 (lI0 226 rfl) rfl rfl ?_
  refine cild2 601 (lI0 227 rfl) rfl rfl ?_
  refine ccst 602 (1) (lI0 228 rfl) rfl (by decide) (fun z598 h598 => ?_)
  refine cadd 603 _ (lI0 229 rfl) rfl rfl (by omega) (by omega) (fun y598 g598 => ?_)
  refine csclE 604 (lI0 230 rfl) rfl (by omega) (by omega) (fun w598 e598 => ?_)
  refine cald 605 (lI0 231 rfl) rfl rfl ?_
  refine cild2 607 (lI0 232 rfl) rfl rfl ?_
  refine ccst 608 (2) (lI0 233 rfl) rfl (by decide) (fun z604 h604 => ?_)
  refine cadd 609 _ (lI0 234 rfl) rfl rfl (by omega) (by omega) (fun y604 g604 => ?_)
  refine csclE 610 (lI0 235 rfl) rfl (by omega) (by omega) (fun w604 e604 => ?_)
  have ew598 : w598 = w579 := by rw [e598, e579, show y598.toInt = y579.toInt by omega]
  subst ew598
  have ew604 : w604 = w585 := by rw [e604, e585, show y604.toInt = y585.toInt by omega]
  subst ew604
  refine ccall (kd := 0) (t := 0) [.ref 66, .int _, .int _] [] hI1.1 (lI0 236 rfl) (Or.inl ⟨_, rfl, rfl, by decide, by decide⟩) rfl rfl rfl ⟨rfl, rfl, rfl⟩ rfl (recv66 hI1.1 _) rfl (qK (Φ := fun z hp2 => bHk 84 bTT hp2 ∧ P0 hp2 ∧ bFr wM hp1 hp2 ∧ stS hp2 ∧ rN hp2 66 7 = rk.toInt ∧ (rk.toInt = 0 → z.toInt = rJ hp1 83 0)) (fun R hR => k_266E (d := 596) hI1.1 hI1.2.1 r1 (fun z hp2 a1 a2 a3 a4 a5 => hR z hp2 ⟨a1, a2, a3, st_join2 o1 a5 a3, a4.trans k1.symm, (fun e0 => by have u := (a5.resolve_left (fun z => z.1 (k1.symm.trans e0))).2.2; have v := (o1.resolve_left (fun z => z.1 (k1.symm.trans e0))).2.2; omega)⟩)) (fun rb hp2 g2 => Or.inl ⟨_, rfl, ?_⟩))
  refine cistK 615 (lI0 237 rfl) rfl rfl ?_
  refine cald 616 (lI0 238 rfl) rfl rfl ?_
  refine ccall (kd := 0) (t := 0) [.ref 66] [] g2.1 (lI0 239 rfl) (Or.inl ⟨_, rfl, rfl, by decide, by decide⟩) rfl rfl rfl ⟨rfl, rfl, rfl⟩ rfl (recv66 g2.1 _) rfl (qK (Φ := fun z hp3 => hp3 = hp2 ∧ z.toInt = rN hp2 66 7) (fun R hR => k_195 (d := 599) g2.1 (fun z e => hR z hp2 ⟨rfl, e⟩)) (fun rt hp3 g3 => Or.inl ⟨_, rfl, ?_⟩))
  obtain ⟨rfl, g3⟩ := g3
  have k2 := g2.2.2.2.2.1
  have j2 : rJ hp3 83 0 = rJ hp1 83 0 := rJ_eq (g2.2.2.1 83 0 rfl)
  refine cild2 621 (lI0 240 rfl) rfl rfl ?_
  refine ccmp_eq 624 (lI0 241 rfl) rfl (fun c1 => ?_) (fun c1 => ?_)
  · refine cild2 628 (lI0 244 rfl) rfl rfl ?_
    refine cif_ne 631 (lI0 245 rfl) rfl (fun c2 => ?_) (fun c2 => ?_)
    · refine cgoto (lI1 5 rfl) ?_
      exact cdrop (fun k v e => by match k, e with | 0, e => exact e | 1, e => exact e | 2, e => exact e | 3, e => exact e | 4, e => exact e | k9 + 5, e => cases e) (cmono (hN _ ⟨law_rf hI1 g2.1 g2.2.1 g2.2.2.1, g2.2.2.2.1⟩) (fun y hp9 m9 s9 h9 => ⟨h9.1, by have := h9.2.1; omega, by have := h9.2.2; omega⟩))
    · refine cald 632 (lI0 246 rfl) rfl rfl ?_
      refine ccst 633 (0) (lI0 247 rfl) rfl (by decide) (fun z8 h8 => ?_)
      refine claldE 634 g2.1 (lI0 248 rfl) rfl h8 (fun z9 h9 => ?_)
      refine cild2 636 (lI0 249 rfl) rfl rfl ?_
      refine ci2lE 637 (lI1 0 rfl) rfl (fun u9 v9 => ?_)
      refine clcmp 638 (lI1 1 rfl) rfl (fun q9 s9 => ?_)
      refine cif_eq 641 (lI1 2 rfl) rfl (fun c3 => ?_) (fun c3 => ?_)
      · refine cgoto (lI1 5 rfl) ?_
        exact cdrop (fun k v e => by match k, e with | 0, e => exact e | 1, e => exact e | 2, e => exact e | 3, e => exact e | 4, e => exact e | k9 + 5, e => cases e) (cmono (hN _ ⟨law_rf hI1 g2.1 g2.2.1 g2.2.2.1, g2.2.2.2.1⟩) (fun y hp9 m9 s9 h9 => ⟨h9.1, by have := h9.2.1; omega, by have := h9.2.2; omega⟩))
      · have := g2.2.2.2.2.2 c2
        omega
  · omega
