/-! ===== the text's cases, one state kept ===== -/
theorem cs0J {sc : List Int32} {b : Nat} {i : Int32} {hp : amH} (i0 : 0 ≤ i.toInt) (i1 : i.toInt + 6 ≤ (sc.length : Int)) (hL : sc.length ≤ 100000) (hI : lawJ hp) (hN : ∀ hp1, lawJ hp1 → lV sc b 2284 i hp1) : lV sc (b + 1) 308 i hp := by
  have n0 : rN hp 1 0 = ((rN hp 1 0).toNat : Int) := by have := b1_0 hI.1.1; omega
  refine cald 309 (lI0 25 rfl) rfl rfl ?_
  refine cald 310 (lI0 26 rfl) rfl rfl ?_
  refine cild2 312 (lI0 27 rfl) rfl rfl ?_
  refine ccst 313 (1) (lI0 28 rfl) rfl (by decide) (fun z309 h309 => ?_)
  refine cadd 314 _ (lI0 29 rfl) rfl rfl (by omega) (by omega) (fun y309 g309 => ?_)
  refine csclE 315 (lI0 30 rfl) rfl (by omega) (by omega) (fun w309 e309 => ?_)
  refine cald 316 (lI0 31 rfl) rfl rfl ?_
  refine cild2 318 (lI0 32 rfl) rfl rfl ?_
  refine ccst 319 (2) (lI0 33 rfl) rfl (by decide) (fun z315 h315 => ?_)
  refine cadd 320 _ (lI0 34 rfl) rfl rfl (by omega) (by omega) (fun y315 g315 => ?_)
  refine csclE 321 (lI0 35 rfl) rfl (by omega) (by omega) (fun w315 e315 => ?_)
  refine cald 322 (lI0 36 rfl) rfl rfl ?_
  refine cild2 324 (lI0 37 rfl) rfl rfl ?_
  refine ccst 325 (3) (lI0 38 rfl) rfl (by decide) (fun z321 h321 => ?_)
  refine cadd 326 _ (lI0 39 rfl) rfl rfl (by omega) (by omega) (fun y321 g321 => ?_)
  refine csclE 327 (lI0 40 rfl) rfl (by omega) (by omega) (fun w321 e321 => ?_)
  refine cald 328 (lI0 41 rfl) rfl rfl ?_
  refine cild2 330 (lI0 42 rfl) rfl rfl ?_
  refine ccst 331 (4) (lI0 43 rfl) rfl (by decide) (fun z327 h327 => ?_)
  refine cadd 332 _ (lI0 44 rfl) rfl rfl (by omega) (by omega) (fun y327 g327 => ?_)
  refine csclE 333 (lI0 45 rfl) rfl (by omega) (by omega) (fun w327 e327 => ?_)
  refine cald 334 (lI0 46 rfl) rfl rfl ?_
  refine cild2 336 (lI0 47 rfl) rfl rfl ?_
  refine ccst 337 (5) (lI0 48 rfl) rfl (by decide) (fun z333 h333 => ?_)
  refine cadd 338 _ (lI0 49 rfl) rfl rfl (by omega) (by omega) (fun y333 g333 => ?_)
  refine csclE 339 (lI0 50 rfl) rfl (by omega) (by omega) (fun w333 e333 => ?_)
  refine ccall (kd := 0) (t := 0) [.ref 0, .int w309, .int w315, .int w321, .int w327, .int w333] [] hI.1.1 (lI0 51 rfl) (Or.inl ⟨_, rfl, rfl, by decide, by decide⟩) rfl rfl rfl ⟨rfl, rfl, rfl⟩ rfl (recv0 hI.1.1 _) rfl (qK (Φ := gAp1 w309 w315 w321 w327 w333 (rN hp 1 0).toNat hp) (fun R hR => k_113E (d := 598) hI.1.1 n0 (fun z hp1 g1 g2 g3 => hR z hp1 ⟨g1, g2, g3⟩)) (fun r1 hp1 g1 => Or.inl ⟨_, rfl, ?_⟩))
  have m0 : rN hp1 66 21 = ((rN hp 1 0).toNat : Int) := by rw [show rN hp1 66 21 = rN hp 66 21 from r_fr g1.2.1 rfl, ← hI.1.2.2.1]; exact n0
  refine cpop 343 (lI0 52 rfl) rfl rfl ?_
  refine cald 344 (lI0 53 rfl) rfl rfl ?_
  refine cald 345 (lI0 54 rfl) rfl rfl ?_
  refine cild2 347 (lI0 55 rfl) rfl rfl ?_
  refine ccst 348 (1) (lI0 56 rfl) rfl (by decide) (fun z344 h344 => ?_)
  refine cadd 349 _ (lI0 57 rfl) rfl rfl (by omega) (by omega) (fun y344 g344 => ?_)
  refine csclE 350 (lI0 58 rfl) rfl (by omega) (by omega) (fun w344 e344 => ?_)
  refine cald 351 (lI0 59 rfl) rfl rfl ?_
  refine cild2 353 (lI0 60 rfl) rfl rfl ?_
  refine ccst 354 (2) (lI0 61 rfl) rfl (by decide) (fun z350 h350 => ?_)
  refine cadd 355 _ (lI0 62 rfl) rfl rfl (by omega) (by omega) (fun y350 g350 => ?_)
  refine csclE 356 (lI0 63 rfl) rfl (by omega) (by omega) (fun w350 e350 => ?_)
  refine cald 357 (lI0 64 rfl) rfl rfl ?_
  refine cild2 359 (lI0 65 rfl) rfl rfl ?_
  refine ccst 360 (3) (lI0 66 rfl) rfl (by decide) (fun z356 h356 => ?_)
  refine cadd 361 _ (lI0 67 rfl) rfl rfl (by omega) (by omega) (fun y356 g356 => ?_)
  refine csclE 362 (lI0 68 rfl) rfl (by omega) (by omega) (fun w356 e356 => ?_)
  refine cald 363 (lI0 69 rfl) rfl rfl ?_
  refine cild2 365 (lI0 70 rfl) rfl rfl ?_
  refine ccst 366 (4) (lI0 71 rfl) rfl (by decide) (fun z362 h362 => ?_)
  refine cadd 367 _ (lI0 72 rfl) rfl rfl (by omega) (by omega) (fun y362 g362 => ?_)
  refine csclE 368 (lI0 73 rfl) rfl (by omega) (by omega) (fun w362 e362 => ?_)
  refine cald 369 (lI0 74 rfl) rfl rfl ?_
  refine cild2 371 (lI0 75 rfl) rfl rfl ?_
  refine ccst 372 (5) (lI0 76 rfl) rfl (by decide) (fun z368 h368 => ?_)
  refine cadd 373 _ (lI0 77 rfl) rfl rfl (by omega) (by omega) (fun y368 g368 => ?_)
  refine csclE 374 (lI0 78 rfl) rfl (by omega) (by omega) (fun w368 e368 => ?_)
  have ew344 : w344 = w309 := by rw [e344, e309, show y344.toInt = y309.toInt by omega]
  subst ew344
  have ew350 : w350 = w315 := by rw [e350, e315, show y350.toInt = y315.toInt by omega]
  subst ew350
  have ew356 : w356 = w321 := by rw [e356, e321, show y356.toInt = y321.toInt by omega]
  subst ew356
  have ew362 : w362 = w327 := by rw [e362, e327, show y362.toInt = y327.toInt by omega]
  subst ew362
  have ew368 : w368 = w333 := by rw [e368, e333, show y368.toInt = y333.toInt by omega]
  subst ew368
  refine ccall (kd := 0) (t := 0) [.ref 66, .int _, .int _, .int _, .int _, .int _] [] g1.1 (lI0 79 rfl) (Or.inl ⟨_, rfl, rfl, by decide, by decide⟩) rfl rfl rfl ⟨rfl, rfl, rfl⟩ rfl (recv66 g1.1 _) rfl (qK (Φ := gAp2 w344 w350 w356 w362 w368 (rN hp 1 0).toNat hp1) (fun R hR => k_239E (d := 598) g1.1 m0 (fun z hp2 a1 a2 a3 => hR z hp2 ⟨a1, a2, a3⟩)) (fun r2 hp2 g2 => Or.inl ⟨_, rfl, ?_⟩))
  have fin := law_ap hI.1 n0 g1 g2
  refine cpop 378 (lI0 80 rfl) rfl rfl ?_
  refine cgoto (lI0 81 rfl) ?_
  exact cmono (hN _ ⟨fin.1, stS_fr (stS_fr hI.2 g1.2.1 (by decide)) g2.2.1 (by decide)⟩) (fun y hp9 m9 s9 h9 => ⟨h9.1, by have := h9.2.1; omega, by have := h9.2.2; omega⟩)
theorem cs1J {sc : List Int32} {b : Nat} {i : Int32} {hp : amH} (i0 : 0 ≤ i.toInt) (i1 : i.toInt + 6 ≤ (sc.length : Int)) (hL : sc.length ≤ 100000) (hI : lawJ hp) (hN : ∀ hp1, lawJ hp1 → lV sc b 2284 i hp1) : lV sc (b + 1) 381 i hp := by
  refine cald 382 (lI0 82 rfl) rfl rfl ?_
  refine cald 383 (lI0 83 rfl) rfl rfl ?_
  refine cild2 385 (lI0 84 rfl) rfl rfl ?_
  refine ccst 386 (1) (lI0 85 rfl) rfl (by decide) (fun z382 h382 => ?_)
  refine cadd 387 _ (lI0 86 rfl) rfl rfl (by omega) (by omega) (fun y382 g382 => ?_)
  refine csclE 388 (lI0 87 rfl) rfl (by omega) (by omega) (fun w382 e382 => ?_)
  refine ccall (kd := 0) (t := 0) [.ref 0, .int w382] [] hI.1.1 (lI0 88 rfl) (Or.inl ⟨_, rfl, rfl, by decide, by decide⟩) rfl rfl rfl ⟨rfl, rfl, rfl⟩ rfl (recv0 hI.1.1 _) rfl (qK (Φ := gTr1 w382 hp) (fun R hR => k_114v (d := 599) hI.1.1 (fun z hp1 g1 g2 g3 => hR z hp1 ⟨g1, g2, g3⟩)) (fun r1 hp1 g1 => Or.inl ⟨_, rfl, ?_⟩))
  refine cpop 392 (lI0 89 rfl) rfl rfl ?_
  refine cald 393 (lI0 90 rfl) rfl rfl ?_
  refine cald 394 (lI0 91 rfl) rfl rfl ?_
  refine cild2 396 (lI0 92 rfl) rfl rfl ?_
  refine ccst 397 (1) (lI0 93 rfl) rfl (by decide) (fun z393 h393 => ?_)
  refine cadd 398 _ (lI0 94 rfl) rfl rfl (by omega) (by omega) (fun y393 g393 => ?_)
  refine csclE 399 (lI0 95 rfl) rfl (by omega) (by omega) (fun w393 e393 => ?_)
  have ew : w393 = w382 := by rw [e393, e382, show y393.toInt = y382.toInt by omega]
  subst ew
  refine ccall (kd := 0) (t := 0) [.ref 66, .int _] [] g1.1 (lI0 96 rfl) (Or.inl ⟨_, rfl, rfl, by decide, by decide⟩) rfl rfl rfl ⟨rfl, rfl, rfl⟩ rfl (recv66 g1.1 _) rfl (qK (Φ := gTr2 w393 hp1) (fun R hR => k_240v (d := 598) g1.1 (fun z hp2 a1 a2 a3 => hR z hp2 ⟨a1, a2, a3⟩)) (fun r2 hp2 g2 => Or.inl ⟨_, rfl, ?_⟩))
  have fin := law_tr hI.1 g1 g2
  refine cpop 403 (lI0 97 rfl) rfl rfl ?_
  refine cgoto (lI0 98 rfl) ?_
  exact cmono (hN _ ⟨fin.1, stS_fr (stS_fr hI.2 g1.2.1 (by decide)) g2.2.1 (by decide)⟩) (fun y hp9 m9 s9 h9 => ⟨h9.1, by have := h9.2.1; omega, by have := h9.2.2; omega⟩)
theorem cs2J {sc : List Int32} {b : Nat} {i : Int32} {hp : amH} (i0 : 0 ≤ i.toInt) (i1 : i.toInt + 6 ≤ (sc.length : Int)) (hL : sc.length ≤ 100000) (hI : lawJ hp) (hN : ∀ hp1, lawJ hp1 → lV sc b 2284 i hp1) : lV sc (b + 1) 406 i hp := by
  obtain ⟨q, n, h, sv, c, r⟩ := hI.2
  refine cald 407 (lI0 99 rfl) rfl rfl ?_
  refine ccall (kd := 0) (t := 0) [.ref 0] [] hI.1.1 (lI0 100 rfl) (Or.inl ⟨_, rfl, rfl, by decide, by decide⟩) rfl rfl rfl ⟨rfl, rfl, rfl⟩ rfl (recv0 hI.1.1 _) rfl (qK (Φ := fun z hp1 => bHk 84 bTT hp1 ∧ (∀ c k, 66 ≤ c → bFld hp1 c k = bFld hp c k) ∧ rN hp1 1 0 = 0 ∧ rC3 (cB hp) z.toInt q n h sv hp1) (fun R hR => k_cldS (d := 592) hI.1.1 c rfl (fun z hp1 a1 a2 a3 a4 => hR z hp1 ⟨a1, a2, a3, a4⟩)) (fun r1 hp1 g1 => Or.inl ⟨_, rfl, ?_⟩))
  refine cpop 411 (lI0 101 rfl) rfl rfl ?_
  refine cald 412 (lI0 102 rfl) rfl rfl ?_
  refine ccall (kd := 0) (t := 0) [.ref 66] [] g1.1 (lI0 103 rfl) (Or.inl ⟨_, rfl, rfl, by decide, by decide⟩) rfl rfl rfl ⟨rfl, rfl, rfl⟩ rfl (recv66 g1.1 _) rfl (qK (Φ := fun z hp2 => bHk 84 bTT hp2 ∧ P0 hp2 ∧ bFr wLd hp1 hp2 ∧ rN hp2 66 21 = 0 ∧ rL3 (cB hp) z.toInt q n h sv hp2) (fun R hR => k_rldS (d := 591) g1.1 (P0_66 g1.2.1 r hI.1.2.1) (rf_66 g1.2.1 r) ((rB_66 g1.2.1).trans hI.1.2.2.2.1.symm) (fun z hp2 a1 a2 a3 a4 a5 => hR z hp2 ⟨a1, a2, a3, a4, a5⟩)) (fun r2 hp2 g2 => Or.inl ⟨_, rfl, ?_⟩))
  have fin := law_ldJ g1 g2
  have fin2 := fin.2
  refine cpop 416 (lI0 104 rfl) rfl rfl ?_
  refine cgoto (lI0 105 rfl) ?_
  exact cmono (hN _ fin.1) (fun y hp9 m9 s9 h9 => ⟨h9.1, by have := h9.2.1; omega, by have := h9.2.2; omega⟩)
