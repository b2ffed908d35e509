/-! ===== the law's loop ===== -/
theorem r_fact {hp : amH} {c f : Nat} (h : bFacts hp [(c, f, 2147483648, 2147483648)]) : rN hp c f = 0 := by
  obtain ⟨x, h1, h2, h3⟩ := h _ List.mem_cons_self
  have := aOff_eq x
  unfold rN
  rw [h1]
  dsimp only at h2 h3 ⊢
  omega
theorem qF {d k lo hi c f : Nat} {s : bSp} {av : List Value} {hp : amH} {S : cQ} (hs : bSem amGG P0 84 bTT k s) (hd : Nat.ble s.2.2.1 d = true) (hH : bHk 84 bTT hp) (hP : P0 hp) (ha : bArgs 84 s.1 av) (hf : s.2.1 = []) (hc : s.2.2.2.2.2 = [(some (.inl (lo, hi)), [(c, f, 2147483648, 2147483648)])]) (ht : s.2.2.2.2.1 = [])
    (hR : ∀ (z : Int32) hp1, bHk 84 bTT hp1 → P0 hp1 → bFr s.2.2.2.1 hp hp1 → rN hp1 c f = 0 → S (.inl (some (.int z))) hp1 0 0) : cK d k av hp S := by
  refine cK_mono (cK_of (xsem hs (Nat.le_of_ble_eq_true hd) hH hP ha (by rw [hf]; exact noF hp) (R := fun y hp1 => bHk 84 bTT hp1 ∧ P0 hp1 ∧ bFr s.2.2.2.1 hp hp1 ∧ bOut 84 s y hp1) (fun y hp1 g1 g2 g3 g4 => ⟨g1, g2, g3, g4⟩))) (fun y hp1 mc ms h => ?_)
  obtain ⟨rfl, rfl, h1, h2, h3, h4⟩ := h
  match y, h4 with
  | .inl v, h4 =>
    obtain ⟨e, g1, g2, g3⟩ := h4
    rw [hc] at g1
    have g1 : e = (some (.inl (lo, hi)), [(c, f, 2147483648, 2147483648)]) := by simpa using g1
    subst g1
    match v, g2 with
    | some w, g2 =>
      obtain ⟨x, rfl, -, -⟩ := g2
      exact hR x hp1 h1 h2 h3 (r_fact g3)
  | .inr E, h4 =>
    have h4 : E ∈ s.2.2.2.2.1 := h4
    rw [ht] at h4
    cases h4
theorem cs0 {sc : List Int32} {b : Nat} {i : Int32} {hp : amH} (i0 : 0 ≤ i.toInt) (i1 : i.toInt + 6 ≤ (sc.length : Int)) (hL : sc.length ≤ 100000) (hI : lawI hp) (hN : ∀ hp1, lawI hp1 → lV sc b 2256 i hp1) : lV sc (b + 1) 308 i hp := by
  refine cald 309 (lI0 25 rfl) rfl rfl ?_
  refine cald 310 (lI0 26 rfl) rfl rfl ?_
  refine cild2 312 (lI0 27 rfl) rfl rfl ?_
  refine ccst 313 (1) (lI0 28 rfl) rfl (by decide) (fun z309 h309 => ?_)
  refine cadd 314 _ (lI0 29 rfl) rfl rfl (by omega) (by omega) (fun y309 g309 => ?_)
  refine cscl 315 (lI0 30 rfl) rfl (by omega) (by omega) (fun w309 => ?_)
  refine cald 316 (lI0 31 rfl) rfl rfl ?_
  refine cild2 318 (lI0 32 rfl) rfl rfl ?_
  refine ccst 319 (2) (lI0 33 rfl) rfl (by decide) (fun z315 h315 => ?_)
  refine cadd 320 _ (lI0 34 rfl) rfl rfl (by omega) (by omega) (fun y315 g315 => ?_)
  refine cscl 321 (lI0 35 rfl) rfl (by omega) (by omega) (fun w315 => ?_)
  refine cald 322 (lI0 36 rfl) rfl rfl ?_
  refine cild2 324 (lI0 37 rfl) rfl rfl ?_
  refine ccst 325 (3) (lI0 38 rfl) rfl (by decide) (fun z321 h321 => ?_)
  refine cadd 326 _ (lI0 39 rfl) rfl rfl (by omega) (by omega) (fun y321 g321 => ?_)
  refine cscl 327 (lI0 40 rfl) rfl (by omega) (by omega) (fun w321 => ?_)
  refine cald 328 (lI0 41 rfl) rfl rfl ?_
  refine cild2 330 (lI0 42 rfl) rfl rfl ?_
  refine ccst 331 (4) (lI0 43 rfl) rfl (by decide) (fun z327 h327 => ?_)
  refine cadd 332 _ (lI0 44 rfl) rfl rfl (by omega) (by omega) (fun y327 g327 => ?_)
  refine cscl 333 (lI0 45 rfl) rfl (by omega) (by omega) (fun w327 => ?_)
  refine cald 334 (lI0 46 rfl) rfl rfl ?_
  refine cild2 336 (lI0 47 rfl) rfl rfl ?_
  refine ccst 337 (5) (lI0 48 rfl) rfl (by decide) (fun z333 h333 => ?_)
  refine cadd 338 _ (lI0 49 rfl) rfl rfl (by omega) (by omega) (fun y333 g333 => ?_)
  refine cscl 339 (lI0 50 rfl) rfl (by omega) (by omega) (fun w333 => ?_)
  refine ccall (kd := 0) (t := 0) [.ref 0, .int _, .int _, .int _, .int _, .int _] [] hI.1 (lI0 51 rfl) (Or.inl ⟨_, rfl, rfl, by decide, by decide⟩) rfl rfl rfl ⟨rfl, rfl, rfl⟩ rfl (recv0 hI.1 _) rfl (qK (Φ := fun z hp1 => bHk 84 bTT hp1 ∧ bFr wTx hp hp1 ∧ ((rN hp 1 0 ≤ 580 ∧ rN hp1 1 0 = rN hp 1 0 + 20 ∧ z.toInt = rN hp 1 0 + 20) ∨ (580 < rN hp 1 0 ∧ rN hp1 1 0 = rN hp 1 0 ∧ z.toInt = -1))) (fun R hR => k_113 (d := 598) hI.1 (fun z hp1 g1 g2 g3 => hR z hp1 ⟨g1, g2, g3⟩)) (fun r1 hp1 g1 => Or.inl ⟨_, rfl, ?_⟩))
  obtain ⟨hH1, F1, V1⟩ := g1
  have P1 : P0 hp1 := P0_W (W := wTx) (by decide) F1 hI.2.1
  have n1 : rN hp1 66 21 = rN hp 66 21 := r_fr F1 rfl
  refine cald 343 (lI0 52 rfl) rfl rfl ?_
  refine cald 344 (lI0 53 rfl) rfl rfl ?_
  refine cild2 346 (lI0 54 rfl) rfl rfl ?_
  refine ccst 347 (1) (lI0 55 rfl) rfl (by decide) (fun z343 h343 => ?_)
  refine cadd 348 _ (lI0 56 rfl) rfl rfl (by omega) (by omega) (fun y343 g343 => ?_)
  refine cscl 349 (lI0 57 rfl) rfl (by omega) (by omega) (fun w343 => ?_)
  refine cald 350 (lI0 58 rfl) rfl rfl ?_
  refine cild2 352 (lI0 59 rfl) rfl rfl ?_
  refine ccst 353 (2) (lI0 60 rfl) rfl (by decide) (fun z349 h349 => ?_)
  refine cadd 354 _ (lI0 61 rfl) rfl rfl (by omega) (by omega) (fun y349 g349 => ?_)
  refine cscl 355 (lI0 62 rfl) rfl (by omega) (by omega) (fun w349 => ?_)
  refine cald 356 (lI0 63 rfl) rfl rfl ?_
  refine cild2 358 (lI0 64 rfl) rfl rfl ?_
  refine ccst 359 (3) (lI0 65 rfl) rfl (by decide) (fun z355 h355 => ?_)
  refine cadd 360 _ (lI0 66 rfl) rfl rfl (by omega) (by omega) (fun y355 g355 => ?_)
  refine cscl 361 (lI0 67 rfl) rfl (by omega) (by omega) (fun w355 => ?_)
  refine cald 362 (lI0 68 rfl) rfl rfl ?_
  refine cild2 364 (lI0 69 rfl) rfl rfl ?_
  refine ccst 365 (4) (lI0 70 rfl) rfl (by decide) (fun z361 h361 => ?_)
  refine cadd 366 _ (lI0 71 rfl) rfl rfl (by omega) (by omega) (fun y361 g361 => ?_)
  refine cscl 367 (lI0 72 rfl) rfl (by omega) (by omega) (fun w361 => ?_)
  refine cald 368 (lI0 73 rfl) rfl rfl ?_
  refine cild2 370 (lI0 74 rfl) rfl rfl ?_
  refine ccst 371 (5) (lI0 75 rfl) rfl (by decide) (fun z367 h367 => ?_)
  refine cadd 372 _ (lI0 76 rfl) rfl rfl (by omega) (by omega) (fun y367 g367 => ?_)
  refine cscl 373 (lI0 77 rfl) rfl (by omega) (by omega) (fun w367 => ?_)
  refine ccall (kd := 0) (t := 0) [.ref 66, .int _, .int _, .int _, .int _, .int _] [.int _] hH1 (lI0 78 rfl) (Or.inl ⟨_, rfl, rfl, by decide, by decide⟩) rfl rfl rfl ⟨rfl, rfl, rfl⟩ rfl (recv66 hH1 _) rfl (qK (Φ := fun z hp2 => bHk 84 bTT hp2 ∧ bFr ((66, 7) :: wAp) hp1 hp2 ∧ ((rN hp1 66 21 ≤ 580 ∧ rN hp2 66 21 = rN hp1 66 21 + 20 ∧ z.toInt = rN hp1 66 21 + 20) ∨ (580 < rN hp1 66 21 ∧ rN hp2 66 21 = rN hp1 66 21 ∧ z.toInt = -1))) (fun R hR => k_239 (d := 598) hH1 (fun z hp2 g1 g2 g3 => hR z hp2 ⟨g1, g2, g3⟩)) (fun r2 hp2 g2 => Or.inl ⟨_, rfl, ?_⟩))
  obtain ⟨hH2, F2, V2⟩ := g2
  have P2 : P0 hp2 := P0_W (W := (66, 7) :: wAp) (by decide) F2 P1
  have n2 : rN hp2 1 0 = rN hp1 1 0 := r_fr F2 rfl
  have nn := hI.2.2
  refine ccmp_eq 379 (lI0 79 rfl) rfl (fun c9 => ?_) (fun c9 => ?_)
  · exact cmono (hN hp2 ⟨hH2, P2, by omega⟩) (fun y hp9 m9 s9 h9 => ⟨h9.1, by have := h9.2.1; omega, by have := h9.2.2; omega⟩)
  · omega
theorem csclE {l : List Int32} {M : amM} {pc a b d : Nat} {L : List (Option Value)} {st : List Value} {hp : amH} {Q : cQ} (q : Nat) {x : Int32} (h : xI M pc .iaload a b) (e : q = pc + 1) (h0 : 0 ≤ x.toInt) (h1 : x.toInt < (l.length : Int)) (hw : ∀ z : Int32, z = l.getD x.toInt.toNat 0 → cV (some l) d M q L (.int z :: st) hp Q) : cV (some l) d M pc L (.int x :: .ref amS :: st) hp Q := by
  have e2 := rw_in (i := x) (n := x.toInt.toNat) (m := l.length) (by omega) (by omega)
  refine cstep h (fun cl hl => ⟨cl, ?_, hl⟩) (hw (l.getD x.toNatClampNeg 0) (by rw [e2.1]))
  subst e
  simp only [amDo, amStep, amSc]
  rw [if_pos ⟨trivial, e2.2⟩]
  rfl
theorem cs1 {sc : List Int32} {b : Nat} {i : Int32} {hp : amH} (i0 : 0 ≤ i.toInt) (i1 : i.toInt + 6 ≤ (sc.length : Int)) (hL : sc.length ≤ 100000) (hI : lawI hp) (hN : ∀ hp1, lawI hp1 → lV sc b 2256 i hp1) : lV sc (b + 1) 381 i hp := by
  refine cald 382 (lI0 82 rfl) rfl rfl ?_
  refine cald 383 (lI0 83 rfl) rfl rfl ?_
  refine cild2 385 (lI0 84 rfl) rfl rfl ?_
  refine ccst 386 (1) (lI0 85 rfl) rfl (by decide) (fun z382 h382 => ?_)
  refine cadd 387 _ (lI0 86 rfl) rfl rfl (by omega) (by omega) (fun y382 g382 => ?_)
  refine csclE 388 (lI0 87 rfl) rfl (by omega) (by omega) (fun w382 e382 => ?_)
  refine ccall (kd := 0) (t := 0) [.ref 0, .int w382] [] hI.1 (lI0 88 rfl) (Or.inl ⟨_, rfl, rfl, by decide, by decide⟩) rfl rfl rfl ⟨rfl, rfl, rfl⟩ rfl (recv0 hI.1 _) rfl (qK (Φ := fun z hp1 => bHk 84 bTT hp1 ∧ bFr [(1, 0)] hp hp1 ∧ ((0 ≤ Int32.toInt w382 ∧ Int32.toInt w382 ≤ rN hp 1 0 ∧ rN hp1 1 0 = Int32.toInt w382) ∨ ((Int32.toInt w382 < 0 ∨ rN hp 1 0 < Int32.toInt w382) ∧ rN hp1 1 0 = rN hp 1 0))) (fun R hR => k_114 (d := 599) hI.1 (fun z hp1 g1 g2 g3 => hR z hp1 ⟨g1, g2, g3⟩)) (fun r1 hp1 g1 => Or.inl ⟨_, rfl, ?_⟩))
  obtain ⟨hH1, F1, V1⟩ := g1
  have P1 : P0 hp1 := P0_W (W := [(1, 0)]) (by decide) F1 hI.2.1
  have n1 : rN hp1 66 21 = rN hp 66 21 := r_fr F1 rfl
  refine cpop 392 (lI0 89 rfl) rfl rfl ?_
  refine cald 393 (lI0 90 rfl) rfl rfl ?_
  refine cald 394 (lI0 91 rfl) rfl rfl ?_
  refine cild2 396 (lI0 92 rfl) rfl rfl ?_
  refine ccst 397 (1) (lI0 93 rfl) rfl (by decide) (fun z393 h393 => ?_)
  refine cadd 398 _ (lI0 94 rfl) rfl rfl (by omega) (by omega) (fun y393 g393 => ?_)
  refine csclE 399 (lI0 95 rfl) rfl (by omega) (by omega) (fun w393 e393 => ?_)
  have ew : w393 = w382 := by rw [e393, e382, show y393.toInt = y382.toInt by omega]
  subst ew
  refine ccall (kd := 0) (t := 0) [.ref 66, .int _] [] hH1 (lI0 96 rfl) (Or.inl ⟨_, rfl, rfl, by decide, by decide⟩) rfl rfl rfl ⟨rfl, rfl, rfl⟩ rfl (recv66 hH1 _) rfl (qK (Φ := fun z hp2 => bHk 84 bTT hp2 ∧ bFr [(66, 7), (66, 21)] hp1 hp2 ∧ ((0 ≤ Int32.toInt w393 ∧ Int32.toInt w393 ≤ rN hp1 66 21 ∧ rN hp2 66 21 = Int32.toInt w393) ∨ ((Int32.toInt w393 < 0 ∨ rN hp1 66 21 < Int32.toInt w393) ∧ rN hp2 66 21 = rN hp1 66 21))) (fun R hR => k_240 (d := 598) hH1 (fun z hp2 g1 g2 g3 => hR z hp2 ⟨g1, g2, g3⟩)) (fun r2 hp2 g2 => Or.inl ⟨_, rfl, ?_⟩))
  obtain ⟨hH2, F2, V2⟩ := g2
  have P2 : P0 hp2 := P0_W (W := [(66, 7), (66, 21)]) (by decide) F2 P1
  have n2 : rN hp2 1 0 = rN hp1 1 0 := r_fr F2 rfl
  have nn := hI.2.2
  refine cpop 403 (lI0 97 rfl) rfl rfl ?_
  refine cgoto (lI0 98 rfl) ?_
  exact cmono (hN hp2 ⟨hH2, P2, by omega⟩) (fun y hp9 m9 s9 h9 => ⟨h9.1, by have := h9.2.1; omega, by have := h9.2.2; omega⟩)
theorem cs2 {sc : List Int32} {b : Nat} {i : Int32} {hp : amH} (i0 : 0 ≤ i.toInt) (i1 : i.toInt + 6 ≤ (sc.length : Int)) (hL : sc.length ≤ 100000) (hI : lawI hp) (hN : ∀ hp1, lawI hp1 → lV sc b 2256 i hp1) : lV sc (b + 1) 406 i hp := by
  refine cald 407 (lI0 99 rfl) rfl rfl ?_
  refine ccall (kd := 0) (t := 0) [.ref 0] [] hI.1 (lI0 100 rfl) (Or.inl ⟨_, rfl, rfl, by decide, by decide⟩) rfl rfl rfl ⟨rfl, rfl, rfl⟩ rfl (recv0 hI.1 _) rfl (qF (bL8_s be_27 (List.mem_of_getElem? (i := 169) rfl)) rfl hI.1 hI.2.1 ⟨a0r, trivial⟩ rfl rfl rfl (fun r1 hp1 hH1 P1 F1 n1 => Or.inl ⟨_, rfl, ?_⟩))
  refine cpop 411 (lI0 101 rfl) rfl rfl ?_
  refine cald 412 (lI0 102 rfl) rfl rfl ?_
  refine ccall (kd := 0) (t := 0) [.ref 66] [] hH1 (lI0 103 rfl) (Or.inl ⟨_, rfl, rfl, by decide, by decide⟩) rfl rfl rfl ⟨rfl, rfl, rfl⟩ rfl (recv66 hH1 _) rfl (qF p251_s rfl hH1 P1 ⟨a66r, trivial⟩ rfl rfl rfl (fun r2 hp2 hH2 P2 F2 n2 => Or.inl ⟨_, rfl, ?_⟩))
  have n3 : rN hp2 1 0 = rN hp1 1 0 := r_fr F2 rfl
  refine cpop 416 (lI0 104 rfl) rfl rfl ?_
  refine cgoto (lI0 105 rfl) ?_
  exact cmono (hN hp2 ⟨hH2, P2, by omega⟩) (fun y hp9 m9 s9 h9 => ⟨h9.1, by have := h9.2.1; omega, by have := h9.2.2; omega⟩)
theorem and63 (x z : Int32) (h : z.toInt = 63) : 0 ≤ (x &&& z).toInt ∧ (x &&& z).toInt ≤ 63 := by
  have e : z = 63 := Int32.toInt_inj.mp h
  subst e
  have h1 : (x &&& 63).toBitVec.toNat ≤ 63 := by rw [Int32.toBitVec_and, BitVec.toNat_and]; exact Nat.and_le_right
  have h2 : (x &&& 63).toInt = (x &&& 63).toBitVec.toInt := rfl
  rw [h2, BitVec.toInt_eq_toNat_cond]
  split <;> omega
theorem c_sw {sc : List Int32} {b : Nat} {i : Int32} {hp : amH} (i0 : 0 ≤ i.toInt) (i1 : i.toInt + 6 ≤ (sc.length : Int)) (hL : sc.length ≤ 100000) (hI : lawI hp) (hN : ∀ hp1, lawI hp1 → lV sc b 2256 i hp1) : ∀ (j : Nat) (z : Int32), j < 64 → z.toInt = (j : Int) → cV (some sc) 600 am_mL 40 [some (.ref amS), some (.ref 0), some (.ref 66), some (.ref 83), some (.int i)] [.int z] hp (lQ (b + 1)) := by
  intro j z hj hz
  match j, hj, hz with
  | 0, _, hz => exact ctab 308 (lI0 24 rfl) (o := 268) (by rw [hz]; rfl) (by decide) (cs0 i0 i1 hL hI hN)
  | 1, _, hz => exact ctab 381 (lI0 24 rfl) (o := 341) (by rw [hz]; rfl) (by decide) (cs1 i0 i1 hL hI hN)
  | 2, _, hz => exact ctab 406 (lI0 24 rfl) (o := 366) (by rw [hz]; rfl) (by decide) (cs2 i0 i1 hL hI hN)
  | 3, _, hz => exact ctab 419 (lI0 24 rfl) (o := 379) (by rw [hz]; rfl) (by decide) (cs3 i0 i1 hL hI hN)
  | 4, _, hz => exact ctab 432 (lI0 24 rfl) (o := 392) (by rw [hz]; rfl) (by decide) (cs4 i0 i1 hL hI hN)
  | 5, _, hz => exact ctab 445 (lI0 24 rfl) (o := 405) (by rw [hz]; rfl) (by decide) (cs5 i0 i1 hL hI hN)
  | 6, _, hz => exact ctab 473 (lI0 24 rfl) (o := 433) (by rw [hz]; rfl) (by decide) (cs6 i0 i1 hL hI hN)
  | 7, _, hz => exact ctab 486 (lI0 24 rfl) (o := 446) (by rw [hz]; rfl) (by decide) (cs7 i0 i1 hL hI hN)
  | 8, _, hz => exact ctab 526 (lI0 24 rfl) (o := 486) (by rw [hz]; rfl) (by decide) (cs8 i0 i1 hL hI hN)
  | 9, _, hz => exact ctab 578 (lI0 24 rfl) (o := 538) (by rw [hz]; rfl) (by decide) (cs9 i0 i1 hL hI hN)
  | 10, _, hz => exact ctab 618 (lI0 24 rfl) (o := 578) (by rw [hz]; rfl) (by decide) (cs10 i0 i1 hL hI hN)
  | 11, _, hz => exact ctab 646 (lI0 24 rfl) (o := 606) (by rw [hz]; rfl) (by decide) (cs11 i0 i1 hL hI hN)
  | 12, _, hz => exact ctab 674 (lI0 24 rfl) (o := 634) (by rw [hz]; rfl) (by decide) (cs12 i0 i1 hL hI hN)
  | 13, _, hz => exact ctab 726 (lI0 24 rfl) (o := 686) (by rw [hz]; rfl) (by decide) (cs13 i0 i1 hL hI hN)
  | 14, _, hz => exact ctab 778 (lI0 24 rfl) (o := 738) (by rw [hz]; rfl) (by decide) (cs14 i0 i1 hL hI hN)
  | 15, _, hz => exact ctab 806 (lI0 24 rfl) (o := 766) (by rw [hz]; rfl) (by decide) (cs15 i0 i1 hL hI hN)
  | 16, _, hz => exact ctab 858 (lI0 24 rfl) (o := 818) (by rw [hz]; rfl) (by decide) (cs16 i0 i1 hL hI hN)
  | 17, _, hz => exact ctab 871 (lI0 24 rfl) (o := 831) (by rw [hz]; rfl) (by decide) (cs17 i0 i1 hL hI hN)
  | 18, _, hz => exact ctab 884 (lI0 24 rfl) (o := 844) (by rw [hz]; rfl) (by decide) (cs18 i0 i1 hL hI hN)
  | 19, _, hz => exact ctab 897 (lI0 24 rfl) (o := 857) (by rw [hz]; rfl) (by decide) (cs19 i0 i1 hL hI hN)
  | 20, _, hz => exact ctab 937 (lI0 24 rfl) (o := 897) (by rw [hz]; rfl) (by decide) (cs20 i0 i1 hL hI hN)
  | 21, _, hz => exact ctab 977 (lI0 24 rfl) (o := 937) (by rw [hz]; rfl) (by decide) (cs21 i0 i1 hL hI hN)
  | 22, _, hz => exact ctab 1005 (lI0 24 rfl) (o := 965) (by rw [hz]; rfl) (by decide) (cs22 i0 i1 hL hI hN)
  | 23, _, hz => exact ctab 1033 (lI0 24 rfl) (o := 993) (by rw [hz]; rfl) (by decide) (cs23 i0 i1 hL hI hN)
  | 24, _, hz => exact ctab 1061 (lI0 24 rfl) (o := 1021) (by rw [hz]; rfl) (by decide) (cs24 i0 i1 hL hI hN)
  | 25, _, hz => exact ctab 1089 (lI0 24 rfl) (o := 1049) (by rw [hz]; rfl) (by decide) (cs25 i0 i1 hL hI hN)
  | 26, _, hz => exact ctab 1130 (lI0 24 rfl) (o := 1090) (by rw [hz]; rfl) (by decide) (cs26 i0 i1 hL hI hN)
  | 27, _, hz => exact ctab 1158 (lI0 24 rfl) (o := 1118) (by rw [hz]; rfl) (by decide) (cs27 i0 i1 hL hI hN)
  | 28, _, hz => exact ctab 1198 (lI0 24 rfl) (o := 1158) (by rw [hz]; rfl) (by decide) (cs28 i0 i1 hL hI hN)
  | 29, _, hz => exact ctab 1250 (lI0 24 rfl) (o := 1210) (by rw [hz]; rfl) (by decide) (cs29 i0 i1 hL hI hN)
  | 30, _, hz => exact ctab 1314 (lI0 24 rfl) (o := 1274) (by rw [hz]; rfl) (by decide) (cs30 i0 i1 hL hI hN)
  | 31, _, hz => exact ctab 1366 (lI0 24 rfl) (o := 1326) (by rw [hz]; rfl) (by decide) (cs31 i0 i1 hL hI hN)
  | 32, _, hz => exact ctab 1418 (lI0 24 rfl) (o := 1378) (by rw [hz]; rfl) (by decide) (cs32 i0 i1 hL hI hN)
  | 33, _, hz => exact ctab 1443 (lI0 24 rfl) (o := 1403) (by rw [hz]; rfl) (by decide) (cs33 i0 i1 hL hI hN)
  | 34, _, hz => exact ctab 1468 (lI0 24 rfl) (o := 1428) (by rw [hz]; rfl) (by decide) (cs34 i0 i1 hL hI hN)
  | 35, _, hz => exact ctab 1508 (lI0 24 rfl) (o := 1468) (by rw [hz]; rfl) (by decide) (cs35 i0 i1 hL hI hN)
  | 36, _, hz => exact ctab 1521 (lI0 24 rfl) (o := 1481) (by rw [hz]; rfl) (by decide) (cs36 i0 i1 hL hI hN)
  | 37, _, hz => exact ctab 1534 (lI0 24 rfl) (o := 1494) (by rw [hz]; rfl) (by decide) (cs37 i0 i1 hL hI hN)
  | 38, _, hz => exact ctab 1586 (lI0 24 rfl) (o := 1546) (by rw [hz]; rfl) (by decide) (cs38 i0 i1 hL hI hN)
  | 39, _, hz => exact ctab 1638 (lI0 24 rfl) (o := 1598) (by rw [hz]; rfl) (by decide) (cs39 i0 i1 hL hI hN)
  | 40, _, hz => exact ctab 1690 (lI0 24 rfl) (o := 1650) (by rw [hz]; rfl) (by decide) (cs40 i0 i1 hL hI hN)
  | 41, _, hz => exact ctab 1742 (lI0 24 rfl) (o := 1702) (by rw [hz]; rfl) (by decide) (cs41 i0 i1 hL hI hN)
  | 42, _, hz => exact ctab 1770 (lI0 24 rfl) (o := 1730) (by rw [hz]; rfl) (by decide) (cs42 i0 i1 hL hI hN)
  | 43, _, hz => exact ctab 1786 (lI0 24 rfl) (o := 1746) (by rw [hz]; rfl) (by decide) (cs43 i0 i1 hL hI hN)
  | 44, _, hz => exact ctab 1811 (lI0 24 rfl) (o := 1771) (by rw [hz]; rfl) (by decide) (cs44 i0 i1 hL hI hN)
  | 45, _, hz => exact ctab 1824 (lI0 24 rfl) (o := 1784) (by rw [hz]; rfl) (by decide) (cs45 i0 i1 hL hI hN)
  | 46, _, hz => exact ctab 1837 (lI0 24 rfl) (o := 1797) (by rw [hz]; rfl) (by decide) (cs46 i0 i1 hL hI hN)
  | 47, _, hz => exact ctab 1862 (lI0 24 rfl) (o := 1822) (by rw [hz]; rfl) (by decide) (cs47 i0 i1 hL hI hN)
  | 48, _, hz => exact ctab 1877 (lI0 24 rfl) (o := 1837) (by rw [hz]; rfl) (by decide) (cs48 i0 i1 hL hI hN)
  | 49, _, hz => exact ctab 1894 (lI0 24 rfl) (o := 1854) (by rw [hz]; rfl) (by decide) (cs49 i0 i1 hL hI hN)
  | 50, _, hz => exact ctab 1922 (lI0 24 rfl) (o := 1882) (by rw [hz]; rfl) (by decide) (cs50 i0 i1 hL hI hN)
  | 51, _, hz => exact ctab 1935 (lI0 24 rfl) (o := 1895) (by rw [hz]; rfl) (by decide) (cs51 i0 i1 hL hI hN)
  | 52, _, hz => exact ctab 1948 (lI0 24 rfl) (o := 1908) (by rw [hz]; rfl) (by decide) (cs52 i0 i1 hL hI hN)
  | 53, _, hz => exact ctab 1976 (lI0 24 rfl) (o := 1936) (by rw [hz]; rfl) (by decide) (cs53 i0 i1 hL hI hN)
  | 54, _, hz => exact ctab 1989 (lI0 24 rfl) (o := 1949) (by rw [hz]; rfl) (by decide) (cs54 i0 i1 hL hI hN)
  | 55, _, hz => exact ctab 2029 (lI0 24 rfl) (o := 1989) (by rw [hz]; rfl) (by decide) (cs55 i0 i1 hL hI hN)
  | 56, _, hz => exact ctab 2057 (lI0 24 rfl) (o := 2017) (by rw [hz]; rfl) (by decide) (cs56 i0 i1 hL hI hN)
  | 57, _, hz => exact ctab 2109 (lI0 24 rfl) (o := 2069) (by rw [hz]; rfl) (by decide) (cs57 i0 i1 hL hI hN)
  | 58, _, hz => exact ctab 2161 (lI0 24 rfl) (o := 2121) (by rw [hz]; rfl) (by decide) (cs58 i0 i1 hL hI hN)
  | 59, _, hz => exact ctab 2189 (lI0 24 rfl) (o := 2149) (by rw [hz]; rfl) (by decide) (cs59 i0 i1 hL hI hN)
  | 60, _, hz => exact ctab 2214 (lI0 24 rfl) (o := 2174) (by rw [hz]; rfl) (by decide) (cs60 i0 i1 hL hI hN)
  | 61, _, hz => exact ctab 2227 (lI0 24 rfl) (o := 2187) (by rw [hz]; rfl) (by decide) (cs61 i0 i1 hL hI hN)
  | 62, _, hz => exact ctab 2240 (lI0 24 rfl) (o := 2200) (by rw [hz]; rfl) (by decide) (cs62 i0 i1 hL hI hN)
  | 63, _, hz => exact ctab 2256 (lI0 24 rfl) (o := 2216) (by rw [hz]; rfl) (by decide) (cmono (hN hp hI) (fun y hp9 m9 s9 h9 => ⟨h9.1, by have := h9.2.1; omega, by have := h9.2.2; omega⟩))
  | n + 64, hj, _ => omega
theorem c_loop {sc : List Int32} (hL : sc.length ≤ 100000) : ∀ (b : Nat) (i : Int32) (hp : amH), 0 ≤ i.toInt → i.toInt ≤ 100000 → (sc.length : Int) < i.toInt + 6 * (b : Int) + 6 → lawI hp → lV sc b 23 i hp := by
  intro b
  induction b with
  | zero =>
    intro i hp i0 i9 ib hI
    refine cild2 25 (lI0 13 rfl) rfl rfl ?_
    refine cald 26 (lI0 14 rfl) rfl rfl ?_
    refine clen 27 (lI0 15 rfl) rfl (by omega) (fun z26 h26 => ?_)
    refine cbip 29 (6) (lI0 16 rfl) rfl (by decide) (fun z27 h27 => ?_)
    refine csub 30 _ (lI0 17 rfl) rfl rfl (by omega) (by omega) (fun z29 h29 => ?_)
    refine ccmp_gt 33 (lI0 18 rfl) rfl (fun c30 => ?_) (fun c30 => ?_)
    · refine ccst 2263 (1) (lI5 95 rfl) rfl (by decide) (fun z2262 h2262 => ?_)
      exact cret (lI5 96 rfl) (Or.inr ⟨rfl, Int32.toInt_inj.mp h2262⟩) ⟨by rw [Int32.toInt_inj.mp (show z2262.toInt = (1 : Int32).toInt from h2262)], Nat.le_refl _, Nat.le_refl _⟩
    · omega
  | succ b ih =>
    intro i hp i0 i9 ib hI
    refine cild2 25 (lI0 13 rfl) rfl rfl ?_
    refine cald 26 (lI0 14 rfl) rfl rfl ?_
    refine clen 27 (lI0 15 rfl) rfl (by omega) (fun z26 h26 => ?_)
    refine cbip 29 (6) (lI0 16 rfl) rfl (by decide) (fun z27 h27 => ?_)
    refine csub 30 _ (lI0 17 rfl) rfl rfl (by omega) (by omega) (fun z29 h29 => ?_)
    refine ccmp_gt 33 (lI0 18 rfl) rfl (fun c30 => ?_) (fun c30 => ?_)
    · refine ccst 2263 (1) (lI5 95 rfl) rfl (by decide) (fun z2262 h2262 => ?_)
      exact cret (lI5 96 rfl) (Or.inr ⟨rfl, Int32.toInt_inj.mp h2262⟩) ⟨by rw [Int32.toInt_inj.mp (show z2262.toInt = (1 : Int32).toInt from h2262)], Nat.zero_le _, Nat.zero_le _⟩
    · refine cald 34 (lI0 19 rfl) rfl rfl ?_
      refine cild2 36 (lI0 20 rfl) rfl rfl ?_
      refine cscl 37 (lI0 21 rfl) rfl (by omega) (by omega) (fun w36 => ?_)
      refine cbip 39 (63) (lI0 22 rfl) rfl (by decide) (fun z37 h37 => ?_)
      refine cand 40 (lI0 23 rfl) rfl ?_
      have a39 := and63 w36 z37 h37
      refine c_sw i0 (by omega) hL hI (fun hp1 hI1 => ?_) (w36 &&& z37).toInt.toNat _ (by omega) (by omega)
      refine cinc 2259 (6) (lI5 93 rfl) rfl rfl rfl (by decide) (by omega) (by omega) (fun z2256 h2256 => ?_)
      refine cgoto (lI5 94 rfl) ?_
      exact ih z2256 hp1 (by omega) (by omega) (by omega) hI1
