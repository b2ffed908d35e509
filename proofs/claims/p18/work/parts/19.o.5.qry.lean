/-! ===== the law's cases, one state kept ===== -/
theorem cs3J {sc : List Int32} {b : Nat} {i : Int32} {hp : amH} (i0 : 0 ≤ i.toInt) (i1 : i.toInt + 6 ≤ (sc.length : Int)) (hL : sc.length ≤ 100000) (hI : lawJ hp) (hN : ∀ hp1, lawJ hp1 → lV sc b 2256 i hp1) : lV sc (b + 1) 419 i hp := by
  refine cald 420 (lI0 106 rfl) rfl rfl ?_
  refine ccall (kd := 0) (t := 0) [.ref 0] [] hI.1.1 (lI0 107 rfl) (Or.inl ⟨_, rfl, rfl, by decide, by decide⟩) rfl rfl rfl ⟨rfl, rfl, rfl⟩ rfl (recv0 hI.1.1 _) rfl (qIJ (bL8_s be_28 (List.mem_of_getElem? (i := 168) rfl)) rfl hI ⟨a0r, trivial⟩ rfl rfl rfl (fun r420 hp420 hI420 => Or.inl ⟨_, rfl, ?_⟩) (fun E _ _ hE => by cases hE))
  refine cpop 424 (lI0 108 rfl) rfl rfl ?_
  refine cald 425 (lI0 109 rfl) rfl rfl ?_
  refine ccall (kd := 0) (t := 0) [.ref 66] [] hI420.1.1 (lI0 110 rfl) (Or.inl ⟨_, rfl, rfl, by decide, by decide⟩) rfl rfl rfl ⟨rfl, rfl, rfl⟩ rfl (recv66 hI420.1.1 _) rfl (qIJ (bQ6_s bf_2 (List.mem_of_getElem? (i := 131) rfl)) rfl hI420 ⟨a66r, trivial⟩ rfl rfl rfl (fun r425 hp425 hI425 => Or.inl ⟨_, rfl, ?_⟩) (fun E _ _ hE => by cases hE))
  refine cpop 429 (lI0 111 rfl) rfl rfl ?_
  refine cgoto (lI0 112 rfl) ?_
  exact cmono (hN hp425 hI425) (fun y hp9 m9 s9 h9 => ⟨h9.1, by have := h9.2.1; omega, by have := h9.2.2; omega⟩)
theorem cs4J {sc : List Int32} {b : Nat} {i : Int32} {hp : amH} (i0 : 0 ≤ i.toInt) (i1 : i.toInt + 6 ≤ (sc.length : Int)) (hL : sc.length ≤ 100000) (hI : lawJ hp) (hN : ∀ hp1, lawJ hp1 → lV sc b 2256 i hp1) : lV sc (b + 1) 432 i hp := by
  refine cald 433 (lI0 113 rfl) rfl rfl ?_
  refine ccall (kd := 0) (t := 0) [.ref 0] [] hI.1.1 (lI0 114 rfl) (Or.inl ⟨_, rfl, rfl, by decide, by decide⟩) rfl rfl rfl ⟨rfl, rfl, rfl⟩ rfl (recv0 hI.1.1 _) rfl (qIJ (bL8_s be_29 (List.mem_of_getElem? (i := 167) rfl)) rfl hI ⟨a0r, trivial⟩ rfl rfl rfl (fun r433 hp433 hI433 => Or.inl ⟨_, rfl, ?_⟩) (fun E _ _ hE => by cases hE))
  refine cpop 437 (lI0 115 rfl) rfl rfl ?_
  refine cald 438 (lI0 116 rfl) rfl rfl ?_
  refine ccall (kd := 0) (t := 0) [.ref 66] [] hI433.1.1 (lI0 117 rfl) (Or.inl ⟨_, rfl, rfl, by decide, by decide⟩) rfl rfl rfl ⟨rfl, rfl, rfl⟩ rfl (recv66 hI433.1.1 _) rfl (qIJ (bQ6_s bf_3 (List.mem_of_getElem? (i := 130) rfl)) rfl hI433 ⟨a66r, trivial⟩ rfl rfl rfl (fun r438 hp438 hI438 => Or.inl ⟨_, rfl, ?_⟩) (fun E _ _ hE => by cases hE))
  refine cpop 442 (lI0 118 rfl) rfl rfl ?_
  refine cgoto (lI0 119 rfl) ?_
  exact cmono (hN hp438 hI438) (fun y hp9 m9 s9 h9 => ⟨h9.1, by have := h9.2.1; omega, by have := h9.2.2; omega⟩)
theorem cs5J {sc : List Int32} {b : Nat} {i : Int32} {hp : amH} (i0 : 0 ≤ i.toInt) (i1 : i.toInt + 6 ≤ (sc.length : Int)) (hL : sc.length ≤ 100000) (hI : lawJ hp) (hN : ∀ hp1, lawJ hp1 → lV sc b 2256 i hp1) : lV sc (b + 1) 445 i hp := by
  refine cald 446 (lI0 120 rfl) rfl rfl ?_
  refine cald 447 (lI0 121 rfl) rfl rfl ?_
  refine cild2 449 (lI0 122 rfl) rfl rfl ?_
  refine ccst 450 (1) (lI0 123 rfl) rfl (by decide) (fun z449 h449 => ?_)
  refine cadd 451 _ (lI0 124 rfl) rfl rfl (by omega) (by omega) (fun z450 h450 => ?_)
  refine cscl 452 (lI0 125 rfl) rfl (by omega) (by omega) (fun w451 => ?_)
  refine cald 453 (lI0 126 rfl) rfl rfl ?_
  refine ccall (kd := 1) (t := 0) [.ref 0, .int _, .ref 83] [] hI.1.1 (lI0 127 rfl) (Or.inr ⟨_, rfl, rfl, by decide⟩) rfl rfl rfl ⟨rfl, rfl, rfl⟩ rfl rfl rfl (h348J (d := 579) hI (fun r453 hp453 mc ms hI453 hmc hms => Or.inl ⟨_, rfl, ?_⟩))
  refine cistU 458 (lI0 128 rfl) rfl rfl rfl ?_
  refine cald 459 (lI0 129 rfl) rfl rfl ?_
  refine cald 460 (lI0 130 rfl) rfl rfl ?_
  refine cild2 462 (lI0 131 rfl) rfl rfl ?_
  refine ccst 463 (1) (lI0 132 rfl) rfl (by decide) (fun z462 h462 => ?_)
  refine cadd 464 _ (lI0 133 rfl) rfl rfl (by omega) (by omega) (fun z463 h463 => ?_)
  refine cscl 465 (lI0 134 rfl) rfl (by omega) (by omega) (fun w464 => ?_)
  refine ccall (kd := 0) (t := 0) [.ref 66, .int _] [] hI453.1.1 (lI0 135 rfl) (Or.inl ⟨_, rfl, rfl, by decide, by decide⟩) rfl rfl rfl ⟨rfl, rfl, rfl⟩ rfl (recv66 hI453.1.1 _) rfl (qIJ (bQ6_s bf_10 (List.mem_of_getElem? (i := 123) rfl)) rfl hI453 ⟨a66r, ai _, trivial⟩ rfl rfl rfl (fun r465 hp465 hI465 => Or.inl ⟨_, rfl, ?_⟩) (fun E _ _ hE => by cases hE))
  refine cistU 470 (lI0 136 rfl) rfl rfl rfl ?_
  refine cgoto (lI0 137 rfl) ?_
  exact cmono (hN hp465 hI465) (fun y hp9 m9 s9 h9 => ⟨h9.1, by have := h9.2.1; omega, by have := h9.2.2; omega⟩)
theorem cs6J {sc : List Int32} {b : Nat} {i : Int32} {hp : amH} (i0 : 0 ≤ i.toInt) (i1 : i.toInt + 6 ≤ (sc.length : Int)) (hL : sc.length ≤ 100000) (hI : lawJ hp) (hN : ∀ hp1, lawJ hp1 → lV sc b 2256 i hp1) : lV sc (b + 1) 473 i hp := by
  refine cald 474 (lI0 138 rfl) rfl rfl ?_
  refine ccall (kd := 0) (t := 0) [.ref 0] [] hI.1.1 (lI0 139 rfl) (Or.inl ⟨_, rfl, rfl, by decide, by decide⟩) rfl rfl rfl ⟨rfl, rfl, rfl⟩ rfl (recv0 hI.1.1 _) rfl (qIJ (bL8_s be_32 (List.mem_of_getElem? (i := 164) rfl)) rfl hI ⟨a0r, trivial⟩ rfl rfl rfl (fun r474 hp474 hI474 => Or.inl ⟨_, rfl, ?_⟩) (fun E _ _ hE => by cases hE))
  refine cpop 478 (lI0 140 rfl) rfl rfl ?_
  refine cald 479 (lI0 141 rfl) rfl rfl ?_
  refine ccall (kd := 0) (t := 0) [.ref 66] [] hI474.1.1 (lI0 142 rfl) (Or.inl ⟨_, rfl, rfl, by decide, by decide⟩) rfl rfl rfl ⟨rfl, rfl, rfl⟩ rfl (recv66 hI474.1.1 _) rfl (qIJ (bQ6_s bf_11 (List.mem_of_getElem? (i := 122) rfl)) rfl hI474 ⟨a66r, trivial⟩ rfl rfl rfl (fun r479 hp479 hI479 => Or.inl ⟨_, rfl, ?_⟩) (fun E _ _ hE => by cases hE))
  refine cpop 483 (lI0 143 rfl) rfl rfl ?_
  refine cgoto (lI0 144 rfl) ?_
  exact cmono (hN hp479 hI479) (fun y hp9 m9 s9 h9 => ⟨h9.1, by have := h9.2.1; omega, by have := h9.2.2; omega⟩)
theorem cs7J {sc : List Int32} {b : Nat} {i : Int32} {hp : amH} (i0 : 0 ≤ i.toInt) (i1 : i.toInt + 6 ≤ (sc.length : Int)) (hL : sc.length ≤ 100000) (hI : lawJ hp) (hN : ∀ hp1, lawJ hp1 → lV sc b 2256 i hp1) : lV sc (b + 1) 486 i hp := by
  refine cald 487 (lI0 145 rfl) rfl rfl ?_
  refine cald 488 (lI0 146 rfl) rfl rfl ?_
  refine cild2 490 (lI0 147 rfl) rfl rfl ?_
  refine ccst 491 (1) (lI0 148 rfl) rfl (by decide) (fun z490 h490 => ?_)
  refine cadd 492 _ (lI0 149 rfl) rfl rfl (by omega) (by omega) (fun z491 h491 => ?_)
  refine cscl 493 (lI0 150 rfl) rfl (by omega) (by omega) (fun w492 => ?_)
  refine cald 494 (lI0 151 rfl) rfl rfl ?_
  refine cild2 496 (lI0 152 rfl) rfl rfl ?_
  refine ccst 497 (2) (lI0 153 rfl) rfl (by decide) (fun z496 h496 => ?_)
  refine cadd 498 _ (lI0 154 rfl) rfl rfl (by omega) (by omega) (fun z497 h497 => ?_)
  refine cscl 499 (lI0 155 rfl) rfl (by omega) (by omega) (fun w498 => ?_)
  refine cald 500 (lI0 156 rfl) rfl rfl ?_
  refine ccall (kd := 1) (t := 0) [.ref 0, .int _, .int _, .ref 83] [] hI.1.1 (lI0 157 rfl) (Or.inr ⟨_, rfl, rfl, by decide⟩) rfl rfl rfl ⟨rfl, rfl, rfl⟩ rfl rfl rfl (h349J (d := 579) hI (fun r500 hp500 mc ms hI500 hmc hms => Or.inl ⟨_, rfl, ?_⟩))
  refine cistU 505 (lI0 158 rfl) rfl rfl rfl ?_
  refine cald 506 (lI0 159 rfl) rfl rfl ?_
  refine cald 507 (lI0 160 rfl) rfl rfl ?_
  refine cild2 509 (lI0 161 rfl) rfl rfl ?_
  refine ccst 510 (1) (lI0 162 rfl) rfl (by decide) (fun z509 h509 => ?_)
  refine cadd 511 _ (lI0 163 rfl) rfl rfl (by omega) (by omega) (fun z510 h510 => ?_)
  refine cscl 512 (lI0 164 rfl) rfl (by omega) (by omega) (fun w511 => ?_)
  refine cald 513 (lI0 165 rfl) rfl rfl ?_
  refine cild2 515 (lI0 166 rfl) rfl rfl ?_
  refine ccst 516 (2) (lI0 167 rfl) rfl (by decide) (fun z515 h515 => ?_)
  refine cadd 517 _ (lI0 168 rfl) rfl rfl (by omega) (by omega) (fun z516 h516 => ?_)
  refine cscl 518 (lI0 169 rfl) rfl (by omega) (by omega) (fun w517 => ?_)
  refine ccall (kd := 0) (t := 0) [.ref 66, .int _, .int _] [] hI500.1.1 (lI0 170 rfl) (Or.inl ⟨_, rfl, rfl, by decide, by decide⟩) rfl rfl rfl ⟨rfl, rfl, rfl⟩ rfl (recv66 hI500.1.1 _) rfl (qIJ (bQ6_s bf_12 (List.mem_of_getElem? (i := 121) rfl)) rfl hI500 ⟨a66r, ai _, ai _, trivial⟩ rfl rfl rfl (fun r518 hp518 hI518 => Or.inl ⟨_, rfl, ?_⟩) (fun E _ _ hE => by cases hE))
  refine cistU 523 (lI0 171 rfl) rfl rfl rfl ?_
  refine cgoto (lI0 172 rfl) ?_
  exact cmono (hN hp518 hI518) (fun y hp9 m9 s9 h9 => ⟨h9.1, by have := h9.2.1; omega, by have := h9.2.2; omega⟩)
theorem cs8J {sc : List Int32} {b : Nat} {i : Int32} {hp : amH} (i0 : 0 ≤ i.toInt) (i1 : i.toInt + 6 ≤ (sc.length : Int)) (hL : sc.length ≤ 100000) (hI : lawJ hp) (hN : ∀ hp1, lawJ hp1 → lV sc b 2256 i hp1) : lV sc (b + 1) 526 i hp := by
  refine cald 527 (lI0 173 rfl) rfl rfl ?_
  refine cald 528 (lI0 174 rfl) rfl rfl ?_
  refine cild2 530 (lI0 175 rfl) rfl rfl ?_
  refine ccst 531 (1) (lI0 176 rfl) rfl (by decide) (fun z530 h530 => ?_)
  refine cadd 532 _ (lI0 177 rfl) rfl rfl (by omega) (by omega) (fun z531 h531 => ?_)
  refine cscl 533 (lI0 178 rfl) rfl (by omega) (by omega) (fun w532 => ?_)
  refine cald 534 (lI0 179 rfl) rfl rfl ?_
  refine cild2 536 (lI0 180 rfl) rfl rfl ?_
  refine ccst 537 (2) (lI0 181 rfl) rfl (by decide) (fun z536 h536 => ?_)
  refine cadd 538 _ (lI0 182 rfl) rfl rfl (by omega) (by omega) (fun z537 h537 => ?_)
  refine cscl 539 (lI0 183 rfl) rfl (by omega) (by omega) (fun w538 => ?_)
  refine cald 540 (lI0 184 rfl) rfl rfl ?_
  refine cild2 542 (lI0 185 rfl) rfl rfl ?_
  refine ccst 543 (3) (lI0 186 rfl) rfl (by decide) (fun z542 h542 => ?_)
  refine cadd 544 _ (lI0 187 rfl) rfl rfl (by omega) (by omega) (fun z543 h543 => ?_)
  refine cscl 545 (lI0 188 rfl) rfl (by omega) (by omega) (fun w544 => ?_)
  refine cald 546 (lI0 189 rfl) rfl rfl ?_
  refine ccall (kd := 1) (t := 0) [.ref 0, .int _, .int _, .int _, .ref 83] [] hI.1.1 (lI0 190 rfl) (Or.inr ⟨_, rfl, rfl, by decide⟩) rfl rfl rfl ⟨rfl, rfl, rfl⟩ rfl rfl rfl (h350J (d := 579) hI (fun r546 hp546 mc ms hI546 hmc hms => Or.inl ⟨_, rfl, ?_⟩))
  refine cistU 551 (lI0 191 rfl) rfl rfl rfl ?_
  refine cald 552 (lI0 192 rfl) rfl rfl ?_
  refine cald 553 (lI0 193 rfl) rfl rfl ?_
  refine cild2 555 (lI0 194 rfl) rfl rfl ?_
  refine ccst 556 (1) (lI0 195 rfl) rfl (by decide) (fun z555 h555 => ?_)
  refine cadd 557 _ (lI0 196 rfl) rfl rfl (by omega) (by omega) (fun z556 h556 => ?_)
  refine cscl 558 (lI0 197 rfl) rfl (by omega) (by omega) (fun w557 => ?_)
  refine cald 559 (lI0 198 rfl) rfl rfl ?_
  refine cild2 561 (lI0 199 rfl) rfl rfl ?_
  refine ccst 562 (2) (lI0 200 rfl) rfl (by decide) (fun z561 h561 => ?_)
  refine cadd 563 _ (lI0 201 rfl) rfl rfl (by omega) (by omega) (fun z562 h562 => ?_)
  refine cscl 564 (lI0 202 rfl) rfl (by omega) (by omega) (fun w563 => ?_)
  refine cald 565 (lI0 203 rfl) rfl rfl ?_
  refine cild2 567 (lI0 204 rfl) rfl rfl ?_
  refine ccst 568 (3) (lI0 205 rfl) rfl (by decide) (fun z567 h567 => ?_)
  refine cadd 569 _ (lI0 206 rfl) rfl rfl (by omega) (by omega) (fun z568 h568 => ?_)
  refine cscl 570 (lI0 207 rfl) rfl (by omega) (by omega) (fun w569 => ?_)
  refine ccall (kd := 0) (t := 0) [.ref 66, .int _, .int _, .int _] [] hI546.1.1 (lI0 208 rfl) (Or.inl ⟨_, rfl, rfl, by decide, by decide⟩) rfl rfl rfl ⟨rfl, rfl, rfl⟩ rfl (recv66 hI546.1.1 _) rfl (qIJ (bQ6_s bf_13 (List.mem_of_getElem? (i := 120) rfl)) rfl hI546 ⟨a66r, ai _, ai _, ai _, trivial⟩ rfl rfl rfl (fun r570 hp570 hI570 => Or.inl ⟨_, rfl, ?_⟩) (fun E _ _ hE => by cases hE))
  refine cistU 575 (lI0 209 rfl) rfl rfl rfl ?_
  refine cgoto (lI0 210 rfl) ?_
  exact cmono (hN hp570 hI570) (fun y hp9 m9 s9 h9 => ⟨h9.1, by have := h9.2.1; omega, by have := h9.2.2; omega⟩)
theorem cs9J {sc : List Int32} {b : Nat} {i : Int32} {hp : amH} (i0 : 0 ≤ i.toInt) (i1 : i.toInt + 6 ≤ (sc.length : Int)) (hL : sc.length ≤ 100000) (hI : lawJ hp) (hN : ∀ hp1, lawJ hp1 → lV sc b 2256 i hp1) : lV sc (b + 1) 578 i hp := by
  refine cald 579 (lI0 211 rfl) rfl rfl ?_
  refine cald 580 (lI0 212 rfl) rfl rfl ?_
  refine cild2 582 (lI0 213 rfl) rfl rfl ?_
  refine ccst 583 (1) (lI0 214 rfl) rfl (by decide) (fun z582 h582 => ?_)
  refine cadd 584 _ (lI0 215 rfl) rfl rfl (by omega) (by omega) (fun z583 h583 => ?_)
  refine cscl 585 (lI0 216 rfl) rfl (by omega) (by omega) (fun w584 => ?_)
  refine cald 586 (lI0 217 rfl) rfl rfl ?_
  refine cild2 588 (lI0 218 rfl) rfl rfl ?_
  refine ccst 589 (2) (lI0 219 rfl) rfl (by decide) (fun z588 h588 => ?_)
  refine cadd 590 _ (lI0 220 rfl) rfl rfl (by omega) (by omega) (fun z589 h589 => ?_)
  refine cscl 591 (lI0 221 rfl) rfl (by omega) (by omega) (fun w590 => ?_)
  refine cald 592 (lI0 222 rfl) rfl rfl ?_
  refine ccall (kd := 1) (t := 0) [.ref 0, .int _, .int _, .ref 83] [] hI.1.1 (lI0 223 rfl) (Or.inr ⟨_, rfl, rfl, by decide⟩) rfl rfl rfl ⟨rfl, rfl, rfl⟩ rfl rfl rfl (h351J (d := 579) hI (fun r592 hp592 mc ms hI592 hmc hms => Or.inl ⟨_, rfl, ?_⟩))
  refine cistU 597 (lI0 224 rfl) rfl rfl rfl ?_
  refine cald 598 (lI0 225 rfl) rfl rfl ?_
  refine cald 599 (lI0 226 rfl) rfl rfl ?_
  refine cild2 601 (lI0 227 rfl) rfl rfl ?_
  refine ccst 602 (1) (lI0 228 rfl) rfl (by decide) (fun z601 h601 => ?_)
  refine cadd 603 _ (lI0 229 rfl) rfl rfl (by omega) (by omega) (fun z602 h602 => ?_)
  refine cscl 604 (lI0 230 rfl) rfl (by omega) (by omega) (fun w603 => ?_)
  refine cald 605 (lI0 231 rfl) rfl rfl ?_
  refine cild2 607 (lI0 232 rfl) rfl rfl ?_
  refine ccst 608 (2) (lI0 233 rfl) rfl (by decide) (fun z607 h607 => ?_)
  refine cadd 609 _ (lI0 234 rfl) rfl rfl (by omega) (by omega) (fun z608 h608 => ?_)
  refine cscl 610 (lI0 235 rfl) rfl (by omega) (by omega) (fun w609 => ?_)
  refine ccall (kd := 0) (t := 0) [.ref 66, .int _, .int _] [] hI592.1.1 (lI0 236 rfl) (Or.inl ⟨_, rfl, rfl, by decide, by decide⟩) rfl rfl rfl ⟨rfl, rfl, rfl⟩ rfl (recv66 hI592.1.1 _) rfl (qIJ (bQ6_s bf_14 (List.mem_of_getElem? (i := 119) rfl)) rfl hI592 ⟨a66r, ai _, ai _, trivial⟩ rfl rfl rfl (fun r610 hp610 hI610 => Or.inl ⟨_, rfl, ?_⟩) (fun E _ _ hE => by cases hE))
  refine cistU 615 (lI0 237 rfl) rfl rfl rfl ?_
  refine cgoto (lI0 238 rfl) ?_
  exact cmono (hN hp610 hI610) (fun y hp9 m9 s9 h9 => ⟨h9.1, by have := h9.2.1; omega, by have := h9.2.2; omega⟩)
theorem cs10J {sc : List Int32} {b : Nat} {i : Int32} {hp : amH} (i0 : 0 ≤ i.toInt) (i1 : i.toInt + 6 ≤ (sc.length : Int)) (hL : sc.length ≤ 100000) (hI : lawJ hp) (hN : ∀ hp1, lawJ hp1 → lV sc b 2256 i hp1) : lV sc (b + 1) 618 i hp := by
  refine cald 619 (lI0 239 rfl) rfl rfl ?_
  refine cald 620 (lI0 240 rfl) rfl rfl ?_
  refine cild2 622 (lI0 241 rfl) rfl rfl ?_
  refine ccst 623 (1) (lI0 242 rfl) rfl (by decide) (fun z622 h622 => ?_)
  refine cadd 624 _ (lI0 243 rfl) rfl rfl (by omega) (by omega) (fun z623 h623 => ?_)
  refine cscl 625 (lI0 244 rfl) rfl (by omega) (by omega) (fun w624 => ?_)
  refine cald 626 (lI0 245 rfl) rfl rfl ?_
  refine ccall (kd := 1) (t := 0) [.ref 0, .int _, .ref 83] [] hI.1.1 (lI0 246 rfl) (Or.inr ⟨_, rfl, rfl, by decide⟩) rfl rfl rfl ⟨rfl, rfl, rfl⟩ rfl rfl rfl (h352J (d := 579) hI (fun r626 hp626 mc ms hI626 hmc hms => Or.inl ⟨_, rfl, ?_⟩))
  refine cistU 631 (lI0 247 rfl) rfl rfl rfl ?_
  refine cald 632 (lI0 248 rfl) rfl rfl ?_
  refine cald 633 (lI0 249 rfl) rfl rfl ?_
  refine cild2 635 (lI1 0 rfl) rfl rfl ?_
  refine ccst 636 (1) (lI1 1 rfl) rfl (by decide) (fun z635 h635 => ?_)
  refine cadd 637 _ (lI1 2 rfl) rfl rfl (by omega) (by omega) (fun z636 h636 => ?_)
  refine cscl 638 (lI1 3 rfl) rfl (by omega) (by omega) (fun w637 => ?_)
  refine ccall (kd := 0) (t := 0) [.ref 66, .int _] [] hI626.1.1 (lI1 4 rfl) (Or.inl ⟨_, rfl, rfl, by decide, by decide⟩) rfl rfl rfl ⟨rfl, rfl, rfl⟩ rfl (recv66 hI626.1.1 _) rfl (qIJ (bQ6_s bf_15 (List.mem_of_getElem? (i := 118) rfl)) rfl hI626 ⟨a66r, ai _, trivial⟩ rfl rfl rfl (fun r638 hp638 hI638 => Or.inl ⟨_, rfl, ?_⟩) (fun E _ _ hE => by cases hE))
  refine cistU 643 (lI1 5 rfl) rfl rfl rfl ?_
  refine cgoto (lI1 6 rfl) ?_
  exact cmono (hN hp638 hI638) (fun y hp9 m9 s9 h9 => ⟨h9.1, by have := h9.2.1; omega, by have := h9.2.2; omega⟩)
theorem cs11J {sc : List Int32} {b : Nat} {i : Int32} {hp : amH} (i0 : 0 ≤ i.toInt) (i1 : i.toInt + 6 ≤ (sc.length : Int)) (hL : sc.length ≤ 100000) (hI : lawJ hp) (hN : ∀ hp1, lawJ hp1 → lV sc b 2256 i hp1) : lV sc (b + 1) 646 i hp := by
  refine cald 647 (lI1 7 rfl) rfl rfl ?_
  refine cald 648 (lI1 8 rfl) rfl rfl ?_
  refine cild2 650 (lI1 9 rfl) rfl rfl ?_
  refine ccst 651 (1) (lI1 10 rfl) rfl (by decide) (fun z650 h650 => ?_)
  refine cadd 652 _ (lI1 11 rfl) rfl rfl (by omega) (by omega) (fun z651 h651 => ?_)
  refine cscl 653 (lI1 12 rfl) rfl (by omega) (by omega) (fun w652 => ?_)
  refine cald 654 (lI1 13 rfl) rfl rfl ?_
  refine ccall (kd := 1) (t := 0) [.ref 0, .int _, .ref 83] [] hI.1.1 (lI1 14 rfl) (Or.inr ⟨_, rfl, rfl, by decide⟩) rfl rfl rfl ⟨rfl, rfl, rfl⟩ rfl rfl rfl (h353J (d := 579) hI (fun r654 hp654 mc ms hI654 hmc hms => Or.inl ⟨_, rfl, ?_⟩))
  refine cistU 659 (lI1 15 rfl) rfl rfl rfl ?_
  refine cald 660 (lI1 16 rfl) rfl rfl ?_
  refine cald 661 (lI1 17 rfl) rfl rfl ?_
  refine cild2 663 (lI1 18 rfl) rfl rfl ?_
  refine ccst 664 (1) (lI1 19 rfl) rfl (by decide) (fun z663 h663 => ?_)
  refine cadd 665 _ (lI1 20 rfl) rfl rfl (by omega) (by omega) (fun z664 h664 => ?_)
  refine cscl 666 (lI1 21 rfl) rfl (by omega) (by omega) (fun w665 => ?_)
  refine ccall (kd := 0) (t := 0) [.ref 66, .int _] [] hI654.1.1 (lI1 22 rfl) (Or.inl ⟨_, rfl, rfl, by decide, by decide⟩) rfl rfl rfl ⟨rfl, rfl, rfl⟩ rfl (recv66 hI654.1.1 _) rfl (qIJ (bQ6_s bf_16 (List.mem_of_getElem? (i := 117) rfl)) rfl hI654 ⟨a66r, ai _, trivial⟩ rfl rfl rfl (fun r666 hp666 hI666 => Or.inl ⟨_, rfl, ?_⟩) (fun E _ _ hE => by cases hE))
  refine cistU 671 (lI1 23 rfl) rfl rfl rfl ?_
  refine cgoto (lI1 24 rfl) ?_
  exact cmono (hN hp666 hI666) (fun y hp9 m9 s9 h9 => ⟨h9.1, by have := h9.2.1; omega, by have := h9.2.2; omega⟩)
theorem cs12J {sc : List Int32} {b : Nat} {i : Int32} {hp : amH} (i0 : 0 ≤ i.toInt) (i1 : i.toInt + 6 ≤ (sc.length : Int)) (hL : sc.length ≤ 100000) (hI : lawJ hp) (hN : ∀ hp1, lawJ hp1 → lV sc b 2256 i hp1) : lV sc (b + 1) 674 i hp := by
  refine cald 675 (lI1 25 rfl) rfl rfl ?_
  refine cald 676 (lI1 26 rfl) rfl rfl ?_
  refine cild2 678 (lI1 27 rfl) rfl rfl ?_
  refine ccst 679 (1) (lI1 28 rfl) rfl (by decide) (fun z678 h678 => ?_)
  refine cadd 680 _ (lI1 29 rfl) rfl rfl (by omega) (by omega) (fun z679 h679 => ?_)
  refine cscl 681 (lI1 30 rfl) rfl (by omega) (by omega) (fun w680 => ?_)
  refine cald 682 (lI1 31 rfl) rfl rfl ?_
  refine cild2 684 (lI1 32 rfl) rfl rfl ?_
  refine ccst 685 (2) (lI1 33 rfl) rfl (by decide) (fun z684 h684 => ?_)
  refine cadd 686 _ (lI1 34 rfl) rfl rfl (by omega) (by omega) (fun z685 h685 => ?_)
  refine cscl 687 (lI1 35 rfl) rfl (by omega) (by omega) (fun w686 => ?_)
  refine cald 688 (lI1 36 rfl) rfl rfl ?_
  refine cild2 690 (lI1 37 rfl) rfl rfl ?_
  refine ccst 691 (3) (lI1 38 rfl) rfl (by decide) (fun z690 h690 => ?_)
  refine cadd 692 _ (lI1 39 rfl) rfl rfl (by omega) (by omega) (fun z691 h691 => ?_)
  refine cscl 693 (lI1 40 rfl) rfl (by omega) (by omega) (fun w692 => ?_)
  refine cald 694 (lI1 41 rfl) rfl rfl ?_
  refine ccall (kd := 1) (t := 0) [.ref 0, .int _, .int _, .int _, .ref 83] [] hI.1.1 (lI1 42 rfl) (Or.inr ⟨_, rfl, rfl, by decide⟩) rfl rfl rfl ⟨rfl, rfl, rfl⟩ rfl rfl rfl (h354J (d := 579) hI (fun r694 hp694 mc ms hI694 hmc hms => Or.inl ⟨_, rfl, ?_⟩))
  refine cistU 699 (lI1 43 rfl) rfl rfl rfl ?_
  refine cald 700 (lI1 44 rfl) rfl rfl ?_
  refine cald 701 (lI1 45 rfl) rfl rfl ?_
  refine cild2 703 (lI1 46 rfl) rfl rfl ?_
  refine ccst 704 (1) (lI1 47 rfl) rfl (by decide) (fun z703 h703 => ?_)
  refine cadd 705 _ (lI1 48 rfl) rfl rfl (by omega) (by omega) (fun z704 h704 => ?_)
  refine cscl 706 (lI1 49 rfl) rfl (by omega) (by omega) (fun w705 => ?_)
  refine cald 707 (lI1 50 rfl) rfl rfl ?_
  refine cild2 709 (lI1 51 rfl) rfl rfl ?_
  refine ccst 710 (2) (lI1 52 rfl) rfl (by decide) (fun z709 h709 => ?_)
  refine cadd 711 _ (lI1 53 rfl) rfl rfl (by omega) (by omega) (fun z710 h710 => ?_)
  refine cscl 712 (lI1 54 rfl) rfl (by omega) (by omega) (fun w711 => ?_)
  refine cald 713 (lI1 55 rfl) rfl rfl ?_
  refine cild2 715 (lI1 56 rfl) rfl rfl ?_
  refine ccst 716 (3) (lI1 57 rfl) rfl (by decide) (fun z715 h715 => ?_)
  refine cadd 717 _ (lI1 58 rfl) rfl rfl (by omega) (by omega) (fun z716 h716 => ?_)
  refine cscl 718 (lI1 59 rfl) rfl (by omega) (by omega) (fun w717 => ?_)
  refine ccall (kd := 0) (t := 0) [.ref 66, .int _, .int _, .int _] [] hI694.1.1 (lI1 60 rfl) (Or.inl ⟨_, rfl, rfl, by decide, by decide⟩) rfl rfl rfl ⟨rfl, rfl, rfl⟩ rfl (recv66 hI694.1.1 _) rfl (qIJ (bQ6_s bf_17 (List.mem_of_getElem? (i := 116) rfl)) rfl hI694 ⟨a66r, ai _, ai _, ai _, trivial⟩ rfl rfl rfl (fun r718 hp718 hI718 => Or.inl ⟨_, rfl, ?_⟩) (fun E _ _ hE => by cases hE))
  refine cistU 723 (lI1 61 rfl) rfl rfl rfl ?_
  refine cgoto (lI1 62 rfl) ?_
  exact cmono (hN hp718 hI718) (fun y hp9 m9 s9 h9 => ⟨h9.1, by have := h9.2.1; omega, by have := h9.2.2; omega⟩)
theorem cs18J {sc : List Int32} {b : Nat} {i : Int32} {hp : amH} (i0 : 0 ≤ i.toInt) (i1 : i.toInt + 6 ≤ (sc.length : Int)) (hL : sc.length ≤ 100000) (hI : lawJ hp) (hN : ∀ hp1, lawJ hp1 → lV sc b 2256 i hp1) : lV sc (b + 1) 884 i hp := by
  refine cald 885 (lI1 171 rfl) rfl rfl ?_
  refine ccall (kd := 0) (t := 0) [.ref 0] [] hI.1.1 (lI1 172 rfl) (Or.inl ⟨_, rfl, rfl, by decide, by decide⟩) rfl rfl rfl ⟨rfl, rfl, rfl⟩ rfl (recv0 hI.1.1 _) rfl (qIJ (bL8_s be_69 (List.mem_of_getElem? (i := 127) rfl)) rfl hI ⟨a0r, trivial⟩ rfl rfl rfl (fun r885 hp885 hI885 => Or.inl ⟨_, rfl, ?_⟩) (fun E _ _ hE => by cases hE))
  refine cpop 889 (lI1 173 rfl) rfl rfl ?_
  refine cald 890 (lI1 174 rfl) rfl rfl ?_
  refine ccall (kd := 0) (t := 0) [.ref 66] [] hI885.1.1 (lI1 175 rfl) (Or.inl ⟨_, rfl, rfl, by decide, by decide⟩) rfl rfl rfl ⟨rfl, rfl, rfl⟩ rfl (recv66 hI885.1.1 _) rfl (qIJ (bQ6_s bf_25 (List.mem_of_getElem? (i := 108) rfl)) rfl hI885 ⟨a66r, trivial⟩ rfl rfl rfl (fun r890 hp890 hI890 => Or.inl ⟨_, rfl, ?_⟩) (fun E _ _ hE => by cases hE))
  refine cpop 894 (lI1 176 rfl) rfl rfl ?_
  refine cgoto (lI1 177 rfl) ?_
  exact cmono (hN hp890 hI890) (fun y hp9 m9 s9 h9 => ⟨h9.1, by have := h9.2.1; omega, by have := h9.2.2; omega⟩)
theorem cs19J {sc : List Int32} {b : Nat} {i : Int32} {hp : amH} (i0 : 0 ≤ i.toInt) (i1 : i.toInt + 6 ≤ (sc.length : Int)) (hL : sc.length ≤ 100000) (hI : lawJ hp) (hN : ∀ hp1, lawJ hp1 → lV sc b 2256 i hp1) : lV sc (b + 1) 897 i hp := by
  refine cald 898 (lI1 178 rfl) rfl rfl ?_
  refine cald 899 (lI1 179 rfl) rfl rfl ?_
  refine cild2 901 (lI1 180 rfl) rfl rfl ?_
  refine ccst 902 (1) (lI1 181 rfl) rfl (by decide) (fun z901 h901 => ?_)
  refine cadd 903 _ (lI1 182 rfl) rfl rfl (by omega) (by omega) (fun z902 h902 => ?_)
  refine cscl 904 (lI1 183 rfl) rfl (by omega) (by omega) (fun w903 => ?_)
  refine cald 905 (lI1 184 rfl) rfl rfl ?_
  refine cild2 907 (lI1 185 rfl) rfl rfl ?_
  refine ccst 908 (2) (lI1 186 rfl) rfl (by decide) (fun z907 h907 => ?_)
  refine cadd 909 _ (lI1 187 rfl) rfl rfl (by omega) (by omega) (fun z908 h908 => ?_)
  refine cscl 910 (lI1 188 rfl) rfl (by omega) (by omega) (fun w909 => ?_)
  refine cald 911 (lI1 189 rfl) rfl rfl ?_
  refine ccall (kd := 1) (t := 0) [.ref 0, .int _, .int _, .ref 83] [] hI.1.1 (lI1 190 rfl) (Or.inr ⟨_, rfl, rfl, by decide⟩) rfl rfl rfl ⟨rfl, rfl, rfl⟩ rfl rfl rfl (h358J (d := 579) hI (fun r911 hp911 mc ms hI911 hmc hms => Or.inl ⟨_, rfl, ?_⟩))
  refine cistU 916 (lI1 191 rfl) rfl rfl rfl ?_
  refine cald 917 (lI1 192 rfl) rfl rfl ?_
  refine cald 918 (lI1 193 rfl) rfl rfl ?_
  refine cild2 920 (lI1 194 rfl) rfl rfl ?_
  refine ccst 921 (1) (lI1 195 rfl) rfl (by decide) (fun z920 h920 => ?_)
  refine cadd 922 _ (lI1 196 rfl) rfl rfl (by omega) (by omega) (fun z921 h921 => ?_)
  refine cscl 923 (lI1 197 rfl) rfl (by omega) (by omega) (fun w922 => ?_)
  refine cald 924 (lI1 198 rfl) rfl rfl ?_
  refine cild2 926 (lI1 199 rfl) rfl rfl ?_
  refine ccst 927 (2) (lI1 200 rfl) rfl (by decide) (fun z926 h926 => ?_)
  refine cadd 928 _ (lI1 201 rfl) rfl rfl (by omega) (by omega) (fun z927 h927 => ?_)
  refine cscl 929 (lI1 202 rfl) rfl (by omega) (by omega) (fun w928 => ?_)
  refine ccall (kd := 0) (t := 0) [.ref 66, .int _, .int _] [] hI911.1.1 (lI1 203 rfl) (Or.inl ⟨_, rfl, rfl, by decide, by decide⟩) rfl rfl rfl ⟨rfl, rfl, rfl⟩ rfl (recv66 hI911.1.1 _) rfl (qIJ (bQ6_s bf_29 (List.mem_of_getElem? (i := 104) rfl)) rfl hI911 ⟨a66r, ai _, ai _, trivial⟩ rfl rfl rfl (fun r929 hp929 hI929 => Or.inl ⟨_, rfl, ?_⟩) (fun E _ _ hE => by cases hE))
  refine cistU 934 (lI1 204 rfl) rfl rfl rfl ?_
  refine cgoto (lI1 205 rfl) ?_
  exact cmono (hN hp929 hI929) (fun y hp9 m9 s9 h9 => ⟨h9.1, by have := h9.2.1; omega, by have := h9.2.2; omega⟩)
theorem cs20J {sc : List Int32} {b : Nat} {i : Int32} {hp : amH} (i0 : 0 ≤ i.toInt) (i1 : i.toInt + 6 ≤ (sc.length : Int)) (hL : sc.length ≤ 100000) (hI : lawJ hp) (hN : ∀ hp1, lawJ hp1 → lV sc b 2256 i hp1) : lV sc (b + 1) 937 i hp := by
  refine cald 938 (lI1 206 rfl) rfl rfl ?_
  refine cald 939 (lI1 207 rfl) rfl rfl ?_
  refine cild2 941 (lI1 208 rfl) rfl rfl ?_
  refine ccst 942 (1) (lI1 209 rfl) rfl (by decide) (fun z941 h941 => ?_)
  refine cadd 943 _ (lI1 210 rfl) rfl rfl (by omega) (by omega) (fun z942 h942 => ?_)
  refine cscl 944 (lI1 211 rfl) rfl (by omega) (by omega) (fun w943 => ?_)
  refine cald 945 (lI1 212 rfl) rfl rfl ?_
  refine cild2 947 (lI1 213 rfl) rfl rfl ?_
  refine ccst 948 (2) (lI1 214 rfl) rfl (by decide) (fun z947 h947 => ?_)
  refine cadd 949 _ (lI1 215 rfl) rfl rfl (by omega) (by omega) (fun z948 h948 => ?_)
  refine cscl 950 (lI1 216 rfl) rfl (by omega) (by omega) (fun w949 => ?_)
  refine cald 951 (lI1 217 rfl) rfl rfl ?_
  refine ccall (kd := 1) (t := 0) [.ref 0, .int _, .int _, .ref 83] [] hI.1.1 (lI1 218 rfl) (Or.inr ⟨_, rfl, rfl, by decide⟩) rfl rfl rfl ⟨rfl, rfl, rfl⟩ rfl rfl rfl (h359J (d := 579) hI (fun r951 hp951 mc ms hI951 hmc hms => Or.inl ⟨_, rfl, ?_⟩))
  refine cistU 956 (lI1 219 rfl) rfl rfl rfl ?_
  refine cald 957 (lI1 220 rfl) rfl rfl ?_
  refine cald 958 (lI1 221 rfl) rfl rfl ?_
  refine cild2 960 (lI1 222 rfl) rfl rfl ?_
  refine ccst 961 (1) (lI1 223 rfl) rfl (by decide) (fun z960 h960 => ?_)
  refine cadd 962 _ (lI1 224 rfl) rfl rfl (by omega) (by omega) (fun z961 h961 => ?_)
  refine cscl 963 (lI1 225 rfl) rfl (by omega) (by omega) (fun w962 => ?_)
  refine cald 964 (lI1 226 rfl) rfl rfl ?_
  refine cild2 966 (lI1 227 rfl) rfl rfl ?_
  refine ccst 967 (2) (lI1 228 rfl) rfl (by decide) (fun z966 h966 => ?_)
  refine cadd 968 _ (lI1 229 rfl) rfl rfl (by omega) (by omega) (fun z967 h967 => ?_)
  refine cscl 969 (lI1 230 rfl) rfl (by omega) (by omega) (fun w968 => ?_)
  refine ccall (kd := 0) (t := 0) [.ref 66, .int _, .int _] [] hI951.1.1 (lI1 231 rfl) (Or.inl ⟨_, rfl, rfl, by decide, by decide⟩) rfl rfl rfl ⟨rfl, rfl, rfl⟩ rfl (recv66 hI951.1.1 _) rfl (qIJ (bQ6_s bf_31 (List.mem_of_getElem? (i := 102) rfl)) rfl hI951 ⟨a66r, ai _, ai _, trivial⟩ rfl rfl rfl (fun r969 hp969 hI969 => Or.inl ⟨_, rfl, ?_⟩) (fun E _ _ hE => by cases hE))
  refine cistU 974 (lI1 232 rfl) rfl rfl rfl ?_
  refine cgoto (lI1 233 rfl) ?_
  exact cmono (hN hp969 hI969) (fun y hp9 m9 s9 h9 => ⟨h9.1, by have := h9.2.1; omega, by have := h9.2.2; omega⟩)
theorem cs21J {sc : List Int32} {b : Nat} {i : Int32} {hp : amH} (i0 : 0 ≤ i.toInt) (i1 : i.toInt + 6 ≤ (sc.length : Int)) (hL : sc.length ≤ 100000) (hI : lawJ hp) (hN : ∀ hp1, lawJ hp1 → lV sc b 2256 i hp1) : lV sc (b + 1) 977 i hp := by
  refine cald 978 (lI1 234 rfl) rfl rfl ?_
  refine cald 979 (lI1 235 rfl) rfl rfl ?_
  refine cild2 981 (lI1 236 rfl) rfl rfl ?_
  refine ccst 982 (1) (lI1 237 rfl) rfl (by decide) (fun z981 h981 => ?_)
  refine cadd 983 _ (lI1 238 rfl) rfl rfl (by omega) (by omega) (fun z982 h982 => ?_)
  refine cscl 984 (lI1 239 rfl) rfl (by omega) (by omega) (fun w983 => ?_)
  refine cald 985 (lI1 240 rfl) rfl rfl ?_
  refine ccall (kd := 1) (t := 0) [.ref 0, .int _, .ref 83] [] hI.1.1 (lI1 241 rfl) (Or.inr ⟨_, rfl, rfl, by decide⟩) rfl rfl rfl ⟨rfl, rfl, rfl⟩ rfl rfl rfl (h360J (d := 579) hI (fun r985 hp985 mc ms hI985 hmc hms => Or.inl ⟨_, rfl, ?_⟩))
  refine cistU 990 (lI1 242 rfl) rfl rfl rfl ?_
  refine cald 991 (lI1 243 rfl) rfl rfl ?_
  refine cald 992 (lI1 244 rfl) rfl rfl ?_
  refine cild2 994 (lI1 245 rfl) rfl rfl ?_
  refine ccst 995 (1) (lI1 246 rfl) rfl (by decide) (fun z994 h994 => ?_)
  refine cadd 996 _ (lI1 247 rfl) rfl rfl (by omega) (by omega) (fun z995 h995 => ?_)
  refine cscl 997 (lI1 248 rfl) rfl (by omega) (by omega) (fun w996 => ?_)
  refine ccall (kd := 0) (t := 0) [.ref 66, .int _] [] hI985.1.1 (lI1 249 rfl) (Or.inl ⟨_, rfl, rfl, by decide, by decide⟩) rfl rfl rfl ⟨rfl, rfl, rfl⟩ rfl (recv66 hI985.1.1 _) rfl (qIJ (bQ6_s bf_32 (List.mem_of_getElem? (i := 101) rfl)) rfl hI985 ⟨a66r, ai _, trivial⟩ rfl rfl rfl (fun r997 hp997 hI997 => Or.inl ⟨_, rfl, ?_⟩) (fun E _ _ hE => by cases hE))
  refine cistU 1002 (lI2 0 rfl) rfl rfl rfl ?_
  refine cgoto (lI2 1 rfl) ?_
  exact cmono (hN hp997 hI997) (fun y hp9 m9 s9 h9 => ⟨h9.1, by have := h9.2.1; omega, by have := h9.2.2; omega⟩)
theorem cs22J {sc : List Int32} {b : Nat} {i : Int32} {hp : amH} (i0 : 0 ≤ i.toInt) (i1 : i.toInt + 6 ≤ (sc.length : Int)) (hL : sc.length ≤ 100000) (hI : lawJ hp) (hN : ∀ hp1, lawJ hp1 → lV sc b 2256 i hp1) : lV sc (b + 1) 1005 i hp := by
  refine cald 1006 (lI2 2 rfl) rfl rfl ?_
  refine cald 1007 (lI2 3 rfl) rfl rfl ?_
  refine cild2 1009 (lI2 4 rfl) rfl rfl ?_
  refine ccst 1010 (1) (lI2 5 rfl) rfl (by decide) (fun z1009 h1009 => ?_)
  refine cadd 1011 _ (lI2 6 rfl) rfl rfl (by omega) (by omega) (fun z1010 h1010 => ?_)
  refine cscl 1012 (lI2 7 rfl) rfl (by omega) (by omega) (fun w1011 => ?_)
  refine cald 1013 (lI2 8 rfl) rfl rfl ?_
  refine ccall (kd := 1) (t := 0) [.ref 0, .int _, .ref 83] [] hI.1.1 (lI2 9 rfl) (Or.inr ⟨_, rfl, rfl, by decide⟩) rfl rfl rfl ⟨rfl, rfl, rfl⟩ rfl rfl rfl (h361J (d := 579) hI (fun r1013 hp1013 mc ms hI1013 hmc hms => Or.inl ⟨_, rfl, ?_⟩))
  refine cistU 1018 (lI2 10 rfl) rfl rfl rfl ?_
  refine cald 1019 (lI2 11 rfl) rfl rfl ?_
  refine cald 1020 (lI2 12 rfl) rfl rfl ?_
  refine cild2 1022 (lI2 13 rfl) rfl rfl ?_
  refine ccst 1023 (1) (lI2 14 rfl) rfl (by decide) (fun z1022 h1022 => ?_)
  refine cadd 1024 _ (lI2 15 rfl) rfl rfl (by omega) (by omega) (fun z1023 h1023 => ?_)
  refine cscl 1025 (lI2 16 rfl) rfl (by omega) (by omega) (fun w1024 => ?_)
  refine ccall (kd := 0) (t := 0) [.ref 66, .int _] [] hI1013.1.1 (lI2 17 rfl) (Or.inl ⟨_, rfl, rfl, by decide, by decide⟩) rfl rfl rfl ⟨rfl, rfl, rfl⟩ rfl (recv66 hI1013.1.1 _) rfl (qIJ (bQ6_s bf_33 (List.mem_of_getElem? (i := 100) rfl)) rfl hI1013 ⟨a66r, ai _, trivial⟩ rfl rfl rfl (fun r1025 hp1025 hI1025 => Or.inl ⟨_, rfl, ?_⟩) (fun E _ _ hE => by cases hE))
  refine cistU 1030 (lI2 18 rfl) rfl rfl rfl ?_
  refine cgoto (lI2 19 rfl) ?_
  exact cmono (hN hp1025 hI1025) (fun y hp9 m9 s9 h9 => ⟨h9.1, by have := h9.2.1; omega, by have := h9.2.2; omega⟩)
theorem cs27J {sc : List Int32} {b : Nat} {i : Int32} {hp : amH} (i0 : 0 ≤ i.toInt) (i1 : i.toInt + 6 ≤ (sc.length : Int)) (hL : sc.length ≤ 100000) (hI : lawJ hp) (hN : ∀ hp1, lawJ hp1 → lV sc b 2256 i hp1) : lV sc (b + 1) 1158 i hp := by
  refine cald 1159 (lI2 99 rfl) rfl rfl ?_
  refine cald 1160 (lI2 100 rfl) rfl rfl ?_
  refine cild2 1162 (lI2 101 rfl) rfl rfl ?_
  refine ccst 1163 (1) (lI2 102 rfl) rfl (by decide) (fun z1162 h1162 => ?_)
  refine cadd 1164 _ (lI2 103 rfl) rfl rfl (by omega) (by omega) (fun z1163 h1163 => ?_)
  refine cscl 1165 (lI2 104 rfl) rfl (by omega) (by omega) (fun w1164 => ?_)
  refine cald 1166 (lI2 105 rfl) rfl rfl ?_
  refine cild2 1168 (lI2 106 rfl) rfl rfl ?_
  refine ccst 1169 (2) (lI2 107 rfl) rfl (by decide) (fun z1168 h1168 => ?_)
  refine cadd 1170 _ (lI2 108 rfl) rfl rfl (by omega) (by omega) (fun z1169 h1169 => ?_)
  refine cscl 1171 (lI2 109 rfl) rfl (by omega) (by omega) (fun w1170 => ?_)
  refine cald 1172 (lI2 110 rfl) rfl rfl ?_
  refine ccall (kd := 1) (t := 0) [.ref 0, .int _, .int _, .ref 83] [] hI.1.1 (lI2 111 rfl) (Or.inr ⟨_, rfl, rfl, by decide⟩) rfl rfl rfl ⟨rfl, rfl, rfl⟩ rfl rfl rfl (h365J (d := 579) hI (fun r1172 hp1172 mc ms hI1172 hmc hms => Or.inl ⟨_, rfl, ?_⟩))
  refine cistU 1177 (lI2 112 rfl) rfl rfl rfl ?_
  refine cald 1178 (lI2 113 rfl) rfl rfl ?_
  refine cald 1179 (lI2 114 rfl) rfl rfl ?_
  refine cild2 1181 (lI2 115 rfl) rfl rfl ?_
  refine ccst 1182 (1) (lI2 116 rfl) rfl (by decide) (fun z1181 h1181 => ?_)
  refine cadd 1183 _ (lI2 117 rfl) rfl rfl (by omega) (by omega) (fun z1182 h1182 => ?_)
  refine cscl 1184 (lI2 118 rfl) rfl (by omega) (by omega) (fun w1183 => ?_)
  refine cald 1185 (lI2 119 rfl) rfl rfl ?_
  refine cild2 1187 (lI2 120 rfl) rfl rfl ?_
  refine ccst 1188 (2) (lI2 121 rfl) rfl (by decide) (fun z1187 h1187 => ?_)
  refine cadd 1189 _ (lI2 122 rfl) rfl rfl (by omega) (by omega) (fun z1188 h1188 => ?_)
  refine cscl 1190 (lI2 123 rfl) rfl (by omega) (by omega) (fun w1189 => ?_)
  refine ccall (kd := 0) (t := 0) [.ref 66, .int _, .int _] [] hI1172.1.1 (lI2 124 rfl) (Or.inl ⟨_, rfl, rfl, by decide, by decide⟩) rfl rfl rfl ⟨rfl, rfl, rfl⟩ rfl (recv66 hI1172.1.1 _) rfl (qIJ (bQ6_s bf_42 (List.mem_of_getElem? (i := 91) rfl)) rfl hI1172 ⟨a66r, ai _, ai _, trivial⟩ rfl rfl rfl (fun r1190 hp1190 hI1190 => Or.inl ⟨_, rfl, ?_⟩) (fun E _ _ hE => by cases hE))
  refine cistU 1195 (lI2 125 rfl) rfl rfl rfl ?_
  refine cgoto (lI2 126 rfl) ?_
  exact cmono (hN hp1190 hI1190) (fun y hp9 m9 s9 h9 => ⟨h9.1, by have := h9.2.1; omega, by have := h9.2.2; omega⟩)
theorem cs28J {sc : List Int32} {b : Nat} {i : Int32} {hp : amH} (i0 : 0 ≤ i.toInt) (i1 : i.toInt + 6 ≤ (sc.length : Int)) (hL : sc.length ≤ 100000) (hI : lawJ hp) (hN : ∀ hp1, lawJ hp1 → lV sc b 2256 i hp1) : lV sc (b + 1) 1198 i hp := by
  refine cald 1199 (lI2 127 rfl) rfl rfl ?_
  refine cald 1200 (lI2 128 rfl) rfl rfl ?_
  refine cild2 1202 (lI2 129 rfl) rfl rfl ?_
  refine ccst 1203 (1) (lI2 130 rfl) rfl (by decide) (fun z1202 h1202 => ?_)
  refine cadd 1204 _ (lI2 131 rfl) rfl rfl (by omega) (by omega) (fun z1203 h1203 => ?_)
  refine cscl 1205 (lI2 132 rfl) rfl (by omega) (by omega) (fun w1204 => ?_)
  refine cald 1206 (lI2 133 rfl) rfl rfl ?_
  refine cild2 1208 (lI2 134 rfl) rfl rfl ?_
  refine ccst 1209 (2) (lI2 135 rfl) rfl (by decide) (fun z1208 h1208 => ?_)
  refine cadd 1210 _ (lI2 136 rfl) rfl rfl (by omega) (by omega) (fun z1209 h1209 => ?_)
  refine cscl 1211 (lI2 137 rfl) rfl (by omega) (by omega) (fun w1210 => ?_)
  refine cald 1212 (lI2 138 rfl) rfl rfl ?_
  refine cild2 1214 (lI2 139 rfl) rfl rfl ?_
  refine ccst 1215 (3) (lI2 140 rfl) rfl (by decide) (fun z1214 h1214 => ?_)
  refine cadd 1216 _ (lI2 141 rfl) rfl rfl (by omega) (by omega) (fun z1215 h1215 => ?_)
  refine cscl 1217 (lI2 142 rfl) rfl (by omega) (by omega) (fun w1216 => ?_)
  refine cald 1218 (lI2 143 rfl) rfl rfl ?_
  refine ccall (kd := 1) (t := 0) [.ref 0, .int _, .int _, .int _, .ref 83] [] hI.1.1 (lI2 144 rfl) (Or.inr ⟨_, rfl, rfl, by decide⟩) rfl rfl rfl ⟨rfl, rfl, rfl⟩ rfl rfl rfl (h366J (d := 579) hI (fun r1218 hp1218 mc ms hI1218 hmc hms => Or.inl ⟨_, rfl, ?_⟩))
  refine cistU 1223 (lI2 145 rfl) rfl rfl rfl ?_
  refine cald 1224 (lI2 146 rfl) rfl rfl ?_
  refine cald 1225 (lI2 147 rfl) rfl rfl ?_
  refine cild2 1227 (lI2 148 rfl) rfl rfl ?_
  refine ccst 1228 (1) (lI2 149 rfl) rfl (by decide) (fun z1227 h1227 => ?_)
  refine cadd 1229 _ (lI2 150 rfl) rfl rfl (by omega) (by omega) (fun z1228 h1228 => ?_)
  refine cscl 1230 (lI2 151 rfl) rfl (by omega) (by omega) (fun w1229 => ?_)
  refine cald 1231 (lI2 152 rfl) rfl rfl ?_
  refine cild2 1233 (lI2 153 rfl) rfl rfl ?_
  refine ccst 1234 (2) (lI2 154 rfl) rfl (by decide) (fun z1233 h1233 => ?_)
  refine cadd 1235 _ (lI2 155 rfl) rfl rfl (by omega) (by omega) (fun z1234 h1234 => ?_)
  refine cscl 1236 (lI2 156 rfl) rfl (by omega) (by omega) (fun w1235 => ?_)
  refine cald 1237 (lI2 157 rfl) rfl rfl ?_
  refine cild2 1239 (lI2 158 rfl) rfl rfl ?_
  refine ccst 1240 (3) (lI2 159 rfl) rfl (by decide) (fun z1239 h1239 => ?_)
  refine cadd 1241 _ (lI2 160 rfl) rfl rfl (by omega) (by omega) (fun z1240 h1240 => ?_)
  refine cscl 1242 (lI2 161 rfl) rfl (by omega) (by omega) (fun w1241 => ?_)
  refine ccall (kd := 0) (t := 0) [.ref 66, .int _, .int _, .int _] [] hI1218.1.1 (lI2 162 rfl) (Or.inl ⟨_, rfl, rfl, by decide, by decide⟩) rfl rfl rfl ⟨rfl, rfl, rfl⟩ rfl (recv66 hI1218.1.1 _) rfl (qIJ (bQ6_s bf_44 (List.mem_of_getElem? (i := 89) rfl)) rfl hI1218 ⟨a66r, ai _, ai _, ai _, trivial⟩ rfl rfl rfl (fun r1242 hp1242 hI1242 => Or.inl ⟨_, rfl, ?_⟩) (fun E _ _ hE => by cases hE))
  refine cistU 1247 (lI2 163 rfl) rfl rfl rfl ?_
  refine cgoto (lI2 164 rfl) ?_
  exact cmono (hN hp1242 hI1242) (fun y hp9 m9 s9 h9 => ⟨h9.1, by have := h9.2.1; omega, by have := h9.2.2; omega⟩)
theorem cs29J {sc : List Int32} {b : Nat} {i : Int32} {hp : amH} (i0 : 0 ≤ i.toInt) (i1 : i.toInt + 6 ≤ (sc.length : Int)) (hL : sc.length ≤ 100000) (hI : lawJ hp) (hN : ∀ hp1, lawJ hp1 → lV sc b 2256 i hp1) : lV sc (b + 1) 1250 i hp := by
  refine cald 1251 (lI2 165 rfl) rfl rfl ?_
  refine cald 1252 (lI2 166 rfl) rfl rfl ?_
  refine cild2 1254 (lI2 167 rfl) rfl rfl ?_
  refine ccst 1255 (1) (lI2 168 rfl) rfl (by decide) (fun z1254 h1254 => ?_)
  refine cadd 1256 _ (lI2 169 rfl) rfl rfl (by omega) (by omega) (fun z1255 h1255 => ?_)
  refine cscl 1257 (lI2 170 rfl) rfl (by omega) (by omega) (fun w1256 => ?_)
  refine cald 1258 (lI2 171 rfl) rfl rfl ?_
  refine cild2 1260 (lI2 172 rfl) rfl rfl ?_
  refine ccst 1261 (2) (lI2 173 rfl) rfl (by decide) (fun z1260 h1260 => ?_)
  refine cadd 1262 _ (lI2 174 rfl) rfl rfl (by omega) (by omega) (fun z1261 h1261 => ?_)
  refine cscl 1263 (lI2 175 rfl) rfl (by omega) (by omega) (fun w1262 => ?_)
  refine cald 1264 (lI2 176 rfl) rfl rfl ?_
  refine cild2 1266 (lI2 177 rfl) rfl rfl ?_
  refine ccst 1267 (3) (lI2 178 rfl) rfl (by decide) (fun z1266 h1266 => ?_)
  refine cadd 1268 _ (lI2 179 rfl) rfl rfl (by omega) (by omega) (fun z1267 h1267 => ?_)
  refine cscl 1269 (lI2 180 rfl) rfl (by omega) (by omega) (fun w1268 => ?_)
  refine cald 1270 (lI2 181 rfl) rfl rfl ?_
  refine cild2 1272 (lI2 182 rfl) rfl rfl ?_
  refine ccst 1273 (4) (lI2 183 rfl) rfl (by decide) (fun z1272 h1272 => ?_)
  refine cadd 1274 _ (lI2 184 rfl) rfl rfl (by omega) (by omega) (fun z1273 h1273 => ?_)
  refine cscl 1275 (lI2 185 rfl) rfl (by omega) (by omega) (fun w1274 => ?_)
  refine cald 1276 (lI2 186 rfl) rfl rfl ?_
  refine ccall (kd := 1) (t := 0) [.ref 0, .int _, .int _, .int _, .int _, .ref 83] [] hI.1.1 (lI2 187 rfl) (Or.inr ⟨_, rfl, rfl, by decide⟩) rfl rfl rfl ⟨rfl, rfl, rfl⟩ rfl rfl rfl (h367J (d := 579) hI (fun r1276 hp1276 mc ms hI1276 hmc hms => Or.inl ⟨_, rfl, ?_⟩))
  refine cistU 1281 (lI2 188 rfl) rfl rfl rfl ?_
  refine cald 1282 (lI2 189 rfl) rfl rfl ?_
  refine cald 1283 (lI2 190 rfl) rfl rfl ?_
  refine cild2 1285 (lI2 191 rfl) rfl rfl ?_
  refine ccst 1286 (1) (lI2 192 rfl) rfl (by decide) (fun z1285 h1285 => ?_)
  refine cadd 1287 _ (lI2 193 rfl) rfl rfl (by omega) (by omega) (fun z1286 h1286 => ?_)
  refine cscl 1288 (lI2 194 rfl) rfl (by omega) (by omega) (fun w1287 => ?_)
  refine cald 1289 (lI2 195 rfl) rfl rfl ?_
  refine cild2 1291 (lI2 196 rfl) rfl rfl ?_
  refine ccst 1292 (2) (lI2 197 rfl) rfl (by decide) (fun z1291 h1291 => ?_)
  refine cadd 1293 _ (lI2 198 rfl) rfl rfl (by omega) (by omega) (fun z1292 h1292 => ?_)
  refine cscl 1294 (lI2 199 rfl) rfl (by omega) (by omega) (fun w1293 => ?_)
  refine cald 1295 (lI2 200 rfl) rfl rfl ?_
  refine cild2 1297 (lI2 201 rfl) rfl rfl ?_
  refine ccst 1298 (3) (lI2 202 rfl) rfl (by decide) (fun z1297 h1297 => ?_)
  refine cadd 1299 _ (lI2 203 rfl) rfl rfl (by omega) (by omega) (fun z1298 h1298 => ?_)
  refine cscl 1300 (lI2 204 rfl) rfl (by omega) (by omega) (fun w1299 => ?_)
  refine cald 1301 (lI2 205 rfl) rfl rfl ?_
  refine cild2 1303 (lI2 206 rfl) rfl rfl ?_
  refine ccst 1304 (4) (lI2 207 rfl) rfl (by decide) (fun z1303 h1303 => ?_)
  refine cadd 1305 _ (lI2 208 rfl) rfl rfl (by omega) (by omega) (fun z1304 h1304 => ?_)
  refine cscl 1306 (lI2 209 rfl) rfl (by omega) (by omega) (fun w1305 => ?_)
  refine ccall (kd := 0) (t := 0) [.ref 66, .int _, .int _, .int _, .int _] [] hI1276.1.1 (lI2 210 rfl) (Or.inl ⟨_, rfl, rfl, by decide, by decide⟩) rfl rfl rfl ⟨rfl, rfl, rfl⟩ rfl (recv66 hI1276.1.1 _) rfl (qIJ (bQ6_s bf_45 (List.mem_of_getElem? (i := 88) rfl)) rfl hI1276 ⟨a66r, ai _, ai _, ai _, ai _, trivial⟩ rfl rfl rfl (fun r1306 hp1306 hI1306 => Or.inl ⟨_, rfl, ?_⟩) (fun E _ _ hE => by cases hE))
  refine cistU 1311 (lI2 211 rfl) rfl rfl rfl ?_
  refine cgoto (lI2 212 rfl) ?_
  exact cmono (hN hp1306 hI1306) (fun y hp9 m9 s9 h9 => ⟨h9.1, by have := h9.2.1; omega, by have := h9.2.2; omega⟩)
theorem cs32J {sc : List Int32} {b : Nat} {i : Int32} {hp : amH} (i0 : 0 ≤ i.toInt) (i1 : i.toInt + 6 ≤ (sc.length : Int)) (hL : sc.length ≤ 100000) (hI : lawJ hp) (hN : ∀ hp1, lawJ hp1 → lV sc b 2256 i hp1) : lV sc (b + 1) 1418 i hp := by
  refine cald 1419 (lI3 39 rfl) rfl rfl ?_
  refine cald 1420 (lI3 40 rfl) rfl rfl ?_
  refine cild2 1422 (lI3 41 rfl) rfl rfl ?_
  refine ccst 1423 (1) (lI3 42 rfl) rfl (by decide) (fun z1422 h1422 => ?_)
  refine cadd 1424 _ (lI3 43 rfl) rfl rfl (by omega) (by omega) (fun z1423 h1423 => ?_)
  refine cscl 1425 (lI3 44 rfl) rfl (by omega) (by omega) (fun w1424 => ?_)
  refine ccall (kd := 0) (t := 0) [.ref 0, .int _] [] hI.1.1 (lI3 45 rfl) (Or.inl ⟨_, rfl, rfl, by decide, by decide⟩) rfl rfl rfl ⟨rfl, rfl, rfl⟩ rfl (recv0 hI.1.1 _) rfl (qIJ (bL8_s be_104 (List.mem_of_getElem? (i := 87) rfl)) rfl hI ⟨a0r, ai _, trivial⟩ rfl rfl rfl (fun r1425 hp1425 hI1425 => Or.inl ⟨_, rfl, ?_⟩) (fun E _ _ hE => by cases hE))
  refine cpop 1429 (lI3 46 rfl) rfl rfl ?_
  refine cald 1430 (lI3 47 rfl) rfl rfl ?_
  refine cald 1431 (lI3 48 rfl) rfl rfl ?_
  refine cild2 1433 (lI3 49 rfl) rfl rfl ?_
  refine ccst 1434 (1) (lI3 50 rfl) rfl (by decide) (fun z1433 h1433 => ?_)
  refine cadd 1435 _ (lI3 51 rfl) rfl rfl (by omega) (by omega) (fun z1434 h1434 => ?_)
  refine cscl 1436 (lI3 52 rfl) rfl (by omega) (by omega) (fun w1435 => ?_)
  refine ccall (kd := 0) (t := 0) [.ref 66, .int _] [] hI1425.1.1 (lI3 53 rfl) (Or.inl ⟨_, rfl, rfl, by decide, by decide⟩) rfl rfl rfl ⟨rfl, rfl, rfl⟩ rfl (recv66 hI1425.1.1 _) rfl (qIJ (bQ6_s bf_46 (List.mem_of_getElem? (i := 87) rfl)) rfl hI1425 ⟨a66r, ai _, trivial⟩ rfl rfl rfl (fun r1436 hp1436 hI1436 => Or.inl ⟨_, rfl, ?_⟩) (fun E _ _ hE => by cases hE))
  refine cpop 1440 (lI3 54 rfl) rfl rfl ?_
  refine cgoto (lI3 55 rfl) ?_
  exact cmono (hN hp1436 hI1436) (fun y hp9 m9 s9 h9 => ⟨h9.1, by have := h9.2.1; omega, by have := h9.2.2; omega⟩)
theorem cs33J {sc : List Int32} {b : Nat} {i : Int32} {hp : amH} (i0 : 0 ≤ i.toInt) (i1 : i.toInt + 6 ≤ (sc.length : Int)) (hL : sc.length ≤ 100000) (hI : lawJ hp) (hN : ∀ hp1, lawJ hp1 → lV sc b 2256 i hp1) : lV sc (b + 1) 1443 i hp := by
  refine cald 1444 (lI3 56 rfl) rfl rfl ?_
  refine cald 1445 (lI3 57 rfl) rfl rfl ?_
  refine cild2 1447 (lI3 58 rfl) rfl rfl ?_
  refine ccst 1448 (1) (lI3 59 rfl) rfl (by decide) (fun z1447 h1447 => ?_)
  refine cadd 1449 _ (lI3 60 rfl) rfl rfl (by omega) (by omega) (fun z1448 h1448 => ?_)
  refine cscl 1450 (lI3 61 rfl) rfl (by omega) (by omega) (fun w1449 => ?_)
  refine ccall (kd := 0) (t := 0) [.ref 0, .int _] [] hI.1.1 (lI3 62 rfl) (Or.inl ⟨_, rfl, rfl, by decide, by decide⟩) rfl rfl rfl ⟨rfl, rfl, rfl⟩ rfl (recv0 hI.1.1 _) rfl (qIJ (bL8_s be_108 (List.mem_of_getElem? (i := 83) rfl)) rfl hI ⟨a0r, ai _, trivial⟩ rfl rfl rfl (fun r1450 hp1450 hI1450 => Or.inl ⟨_, rfl, ?_⟩) (fun E _ _ hE => by cases hE))
  refine cpop 1454 (lI3 63 rfl) rfl rfl ?_
  refine cald 1455 (lI3 64 rfl) rfl rfl ?_
  refine cald 1456 (lI3 65 rfl) rfl rfl ?_
  refine cild2 1458 (lI3 66 rfl) rfl rfl ?_
  refine ccst 1459 (1) (lI3 67 rfl) rfl (by decide) (fun z1458 h1458 => ?_)
  refine cadd 1460 _ (lI3 68 rfl) rfl rfl (by omega) (by omega) (fun z1459 h1459 => ?_)
  refine cscl 1461 (lI3 69 rfl) rfl (by omega) (by omega) (fun w1460 => ?_)
  refine ccall (kd := 0) (t := 0) [.ref 66, .int _] [] hI1450.1.1 (lI3 70 rfl) (Or.inl ⟨_, rfl, rfl, by decide, by decide⟩) rfl rfl rfl ⟨rfl, rfl, rfl⟩ rfl (recv66 hI1450.1.1 _) rfl (qIJ (bQ6_s bf_52 (List.mem_of_getElem? (i := 81) rfl)) rfl hI1450 ⟨a66r, ai _, trivial⟩ rfl rfl rfl (fun r1461 hp1461 hI1461 => Or.inl ⟨_, rfl, ?_⟩) (fun E _ _ hE => by cases hE))
  refine cpop 1465 (lI3 71 rfl) rfl rfl ?_
  refine cgoto (lI3 72 rfl) ?_
  exact cmono (hN hp1461 hI1461) (fun y hp9 m9 s9 h9 => ⟨h9.1, by have := h9.2.1; omega, by have := h9.2.2; omega⟩)
theorem cs34J {sc : List Int32} {b : Nat} {i : Int32} {hp : amH} (i0 : 0 ≤ i.toInt) (i1 : i.toInt + 6 ≤ (sc.length : Int)) (hL : sc.length ≤ 100000) (hI : lawJ hp) (hN : ∀ hp1, lawJ hp1 → lV sc b 2256 i hp1) : lV sc (b + 1) 1468 i hp := by
  refine cald 1469 (lI3 73 rfl) rfl rfl ?_
  refine cald 1470 (lI3 74 rfl) rfl rfl ?_
  refine cild2 1472 (lI3 75 rfl) rfl rfl ?_
  refine ccst 1473 (1) (lI3 76 rfl) rfl (by decide) (fun z1472 h1472 => ?_)
  refine cadd 1474 _ (lI3 77 rfl) rfl rfl (by omega) (by omega) (fun z1473 h1473 => ?_)
  refine cscl 1475 (lI3 78 rfl) rfl (by omega) (by omega) (fun w1474 => ?_)
  refine cald 1476 (lI3 79 rfl) rfl rfl ?_
  refine cild2 1478 (lI3 80 rfl) rfl rfl ?_
  refine ccst 1479 (2) (lI3 81 rfl) rfl (by decide) (fun z1478 h1478 => ?_)
  refine cadd 1480 _ (lI3 82 rfl) rfl rfl (by omega) (by omega) (fun z1479 h1479 => ?_)
  refine cscl 1481 (lI3 83 rfl) rfl (by omega) (by omega) (fun w1480 => ?_)
  refine cald 1482 (lI3 84 rfl) rfl rfl ?_
  refine ccall (kd := 1) (t := 0) [.ref 0, .int _, .int _, .ref 83] [] hI.1.1 (lI3 85 rfl) (Or.inr ⟨_, rfl, rfl, by decide⟩) rfl rfl rfl ⟨rfl, rfl, rfl⟩ rfl rfl rfl (h370J (d := 579) hI (fun r1482 hp1482 mc ms hI1482 hmc hms => Or.inl ⟨_, rfl, ?_⟩))
  refine cistU 1487 (lI3 86 rfl) rfl rfl rfl ?_
  refine cald 1488 (lI3 87 rfl) rfl rfl ?_
  refine cald 1489 (lI3 88 rfl) rfl rfl ?_
  refine cild2 1491 (lI3 89 rfl) rfl rfl ?_
  refine ccst 1492 (1) (lI3 90 rfl) rfl (by decide) (fun z1491 h1491 => ?_)
  refine cadd 1493 _ (lI3 91 rfl) rfl rfl (by omega) (by omega) (fun z1492 h1492 => ?_)
  refine cscl 1494 (lI3 92 rfl) rfl (by omega) (by omega) (fun w1493 => ?_)
  refine cald 1495 (lI3 93 rfl) rfl rfl ?_
  refine cild2 1497 (lI3 94 rfl) rfl rfl ?_
  refine ccst 1498 (2) (lI3 95 rfl) rfl (by decide) (fun z1497 h1497 => ?_)
  refine cadd 1499 _ (lI3 96 rfl) rfl rfl (by omega) (by omega) (fun z1498 h1498 => ?_)
  refine cscl 1500 (lI3 97 rfl) rfl (by omega) (by omega) (fun w1499 => ?_)
  refine ccall (kd := 0) (t := 0) [.ref 66, .int _, .int _] [] hI1482.1.1 (lI3 98 rfl) (Or.inl ⟨_, rfl, rfl, by decide, by decide⟩) rfl rfl rfl ⟨rfl, rfl, rfl⟩ rfl (recv66 hI1482.1.1 _) rfl (qTJ (t := 1) (bQ6_s bf_53 (List.mem_of_getElem? (i := 80) rfl)) rfl hI1482 ⟨a66r, ai _, ai _, trivial⟩ rfl rfl rfl (fun r1500 hp1500 hI1500 hw1500 => Or.inl ⟨_, rfl, ?_⟩) (fun E _ _ hE => by cases hE))
  obtain ⟨r1500, rfl⟩ := bT1 hw1500
  refine clstU 1505 (lI3 99 rfl) rfl rfl rfl ?_
  refine cgoto (lI3 100 rfl) ?_
  exact cmono (hN hp1500 hI1500) (fun y hp9 m9 s9 h9 => ⟨h9.1, by have := h9.2.1; omega, by have := h9.2.2; omega⟩)
theorem cs35J {sc : List Int32} {b : Nat} {i : Int32} {hp : amH} (i0 : 0 ≤ i.toInt) (i1 : i.toInt + 6 ≤ (sc.length : Int)) (hL : sc.length ≤ 100000) (hI : lawJ hp) (hN : ∀ hp1, lawJ hp1 → lV sc b 2256 i hp1) : lV sc (b + 1) 1508 i hp := by
  refine cald 1509 (lI3 101 rfl) rfl rfl ?_
  refine ccall (kd := 0) (t := 0) [.ref 0] [] hI.1.1 (lI3 102 rfl) (Or.inl ⟨_, rfl, rfl, by decide, by decide⟩) rfl rfl rfl ⟨rfl, rfl, rfl⟩ rfl (recv0 hI.1.1 _) rfl (qIJ (bL8_s be_111 (List.mem_of_getElem? (i := 80) rfl)) rfl hI ⟨a0r, trivial⟩ rfl rfl rfl (fun r1509 hp1509 hI1509 => Or.inl ⟨_, rfl, ?_⟩) (fun E _ _ hE => by cases hE))
  refine cpop 1513 (lI3 103 rfl) rfl rfl ?_
  refine cald 1514 (lI3 104 rfl) rfl rfl ?_
  refine ccall (kd := 0) (t := 0) [.ref 66] [] hI1509.1.1 (lI3 105 rfl) (Or.inl ⟨_, rfl, rfl, by decide, by decide⟩) rfl rfl rfl ⟨rfl, rfl, rfl⟩ rfl (recv66 hI1509.1.1 _) rfl (qIJ (bQ6_s bf_59 (List.mem_of_getElem? (i := 74) rfl)) rfl hI1509 ⟨a66r, trivial⟩ rfl rfl rfl (fun r1514 hp1514 hI1514 => Or.inl ⟨_, rfl, ?_⟩) (fun E _ _ hE => by cases hE))
  refine cpop 1518 (lI3 106 rfl) rfl rfl ?_
  refine cgoto (lI3 107 rfl) ?_
  exact cmono (hN hp1514 hI1514) (fun y hp9 m9 s9 h9 => ⟨h9.1, by have := h9.2.1; omega, by have := h9.2.2; omega⟩)
/-! ===== the law's cases (j) ===== -/
theorem cs36J {sc : List Int32} {b : Nat} {i : Int32} {hp : amH} (i0 : 0 ≤ i.toInt) (i1 : i.toInt + 6 ≤ (sc.length : Int)) (hL : sc.length ≤ 100000) (hI : lawJ hp) (hN : ∀ hp1, lawJ hp1 → lV sc b 2256 i hp1) : lV sc (b + 1) 1521 i hp := by
  refine cald 1522 (lI3 108 rfl) rfl rfl ?_
  refine ccall (kd := 0) (t := 0) [.ref 0] [] hI.1.1 (lI3 109 rfl) (Or.inl ⟨_, rfl, rfl, by decide, by decide⟩) rfl rfl rfl ⟨rfl, rfl, rfl⟩ rfl (recv0 hI.1.1 _) rfl (qIJ (bL8_s be_113 (List.mem_of_getElem? (i := 78) rfl)) rfl hI ⟨a0r, trivial⟩ rfl rfl rfl (fun r1522 hp1522 hI1522 => Or.inl ⟨_, rfl, ?_⟩) (fun E _ _ hE => by cases hE))
  refine cpop 1526 (lI3 110 rfl) rfl rfl ?_
  refine cald 1527 (lI3 111 rfl) rfl rfl ?_
  refine ccall (kd := 0) (t := 0) [.ref 66] [] hI1522.1.1 (lI3 112 rfl) (Or.inl ⟨_, rfl, rfl, by decide, by decide⟩) rfl rfl rfl ⟨rfl, rfl, rfl⟩ rfl (recv66 hI1522.1.1 _) rfl (qIJ (bQ6_s bf_67 (List.mem_of_getElem? (i := 66) rfl)) rfl hI1522 ⟨a66r, trivial⟩ rfl rfl rfl (fun r1527 hp1527 hI1527 => Or.inl ⟨_, rfl, ?_⟩) (fun E _ _ hE => by cases hE))
  refine cpop 1531 (lI3 113 rfl) rfl rfl ?_
  refine cgoto (lI3 114 rfl) ?_
  exact cmono (hN hp1527 hI1527) (fun y hp9 m9 s9 h9 => ⟨h9.1, by have := h9.2.1; omega, by have := h9.2.2; omega⟩)
theorem cs37J {sc : List Int32} {b : Nat} {i : Int32} {hp : amH} (i0 : 0 ≤ i.toInt) (i1 : i.toInt + 6 ≤ (sc.length : Int)) (hL : sc.length ≤ 100000) (hI : lawJ hp) (hN : ∀ hp1, lawJ hp1 → lV sc b 2256 i hp1) : lV sc (b + 1) 1534 i hp := by
  refine cald 1535 (lI3 115 rfl) rfl rfl ?_
  refine cald 1536 (lI3 116 rfl) rfl rfl ?_
  refine cild2 1538 (lI3 117 rfl) rfl rfl ?_
  refine ccst 1539 (1) (lI3 118 rfl) rfl (by decide) (fun z1538 h1538 => ?_)
  refine cadd 1540 _ (lI3 119 rfl) rfl rfl (by omega) (by omega) (fun z1539 h1539 => ?_)
  refine cscl 1541 (lI3 120 rfl) rfl (by omega) (by omega) (fun w1540 => ?_)
  refine cald 1542 (lI3 121 rfl) rfl rfl ?_
  refine cild2 1544 (lI3 122 rfl) rfl rfl ?_
  refine ccst 1545 (2) (lI3 123 rfl) rfl (by decide) (fun z1544 h1544 => ?_)
  refine cadd 1546 _ (lI3 124 rfl) rfl rfl (by omega) (by omega) (fun z1545 h1545 => ?_)
  refine cscl 1547 (lI3 125 rfl) rfl (by omega) (by omega) (fun w1546 => ?_)
  refine cald 1548 (lI3 126 rfl) rfl rfl ?_
  refine cild2 1550 (lI3 127 rfl) rfl rfl ?_
  refine ccst 1551 (3) (lI3 128 rfl) rfl (by decide) (fun z1550 h1550 => ?_)
  refine cadd 1552 _ (lI3 129 rfl) rfl rfl (by omega) (by omega) (fun z1551 h1551 => ?_)
  refine cscl 1553 (lI3 130 rfl) rfl (by omega) (by omega) (fun w1552 => ?_)
  refine cald 1554 (lI3 131 rfl) rfl rfl ?_
  refine ccall (kd := 1) (t := 0) [.ref 0, .int _, .int _, .int _, .ref 83] [] hI.1.1 (lI3 132 rfl) (Or.inr ⟨_, rfl, rfl, by decide⟩) rfl rfl rfl ⟨rfl, rfl, rfl⟩ rfl rfl rfl (h371J (d := 579) hI (fun r1554 hp1554 mc ms hI1554 hmc hms => Or.inl ⟨_, rfl, ?_⟩))
  refine cistU 1559 (lI3 133 rfl) rfl rfl rfl ?_
  refine cald 1560 (lI3 134 rfl) rfl rfl ?_
  refine cald 1561 (lI3 135 rfl) rfl rfl ?_
  refine cild2 1563 (lI3 136 rfl) rfl rfl ?_
  refine ccst 1564 (1) (lI3 137 rfl) rfl (by decide) (fun z1563 h1563 => ?_)
  refine cadd 1565 _ (lI3 138 rfl) rfl rfl (by omega) (by omega) (fun z1564 h1564 => ?_)
  refine cscl 1566 (lI3 139 rfl) rfl (by omega) (by omega) (fun w1565 => ?_)
  refine cald 1567 (lI3 140 rfl) rfl rfl ?_
  refine cild2 1569 (lI3 141 rfl) rfl rfl ?_
  refine ccst 1570 (2) (lI3 142 rfl) rfl (by decide) (fun z1569 h1569 => ?_)
  refine cadd 1571 _ (lI3 143 rfl) rfl rfl (by omega) (by omega) (fun z1570 h1570 => ?_)
  refine cscl 1572 (lI3 144 rfl) rfl (by omega) (by omega) (fun w1571 => ?_)
  refine cald 1573 (lI3 145 rfl) rfl rfl ?_
  refine cild2 1575 (lI3 146 rfl) rfl rfl ?_
  refine ccst 1576 (3) (lI3 147 rfl) rfl (by decide) (fun z1575 h1575 => ?_)
  refine cadd 1577 _ (lI3 148 rfl) rfl rfl (by omega) (by omega) (fun z1576 h1576 => ?_)
  refine cscl 1578 (lI3 149 rfl) rfl (by omega) (by omega) (fun w1577 => ?_)
  refine ccall (kd := 0) (t := 0) [.ref 66, .int _, .int _, .int _] [] hI1554.1.1 (lI3 150 rfl) (Or.inl ⟨_, rfl, rfl, by decide, by decide⟩) rfl rfl rfl ⟨rfl, rfl, rfl⟩ rfl (recv66 hI1554.1.1 _) rfl (qIJ p314_sQ rfl hI1554 ⟨a66r, ai _, ai _, ai _, trivial⟩ rfl rfl rfl (fun r1578 hp1578 hI1578 => Or.inl ⟨_, rfl, ?_⟩) (fun E _ _ hE => by cases hE))
  refine cistU 1583 (lI3 151 rfl) rfl rfl rfl ?_
  refine cgoto (lI3 152 rfl) ?_
  exact cmono (hN hp1578 hI1578) (fun y hp9 m9 s9 h9 => ⟨h9.1, by have := h9.2.1; omega, by have := h9.2.2; omega⟩)
theorem cs38J {sc : List Int32} {b : Nat} {i : Int32} {hp : amH} (i0 : 0 ≤ i.toInt) (i1 : i.toInt + 6 ≤ (sc.length : Int)) (hL : sc.length ≤ 100000) (hI : lawJ hp) (hN : ∀ hp1, lawJ hp1 → lV sc b 2256 i hp1) : lV sc (b + 1) 1586 i hp := by
  refine cald 1587 (lI3 153 rfl) rfl rfl ?_
  refine cald 1588 (lI3 154 rfl) rfl rfl ?_
  refine cild2 1590 (lI3 155 rfl) rfl rfl ?_
  refine ccst 1591 (1) (lI3 156 rfl) rfl (by decide) (fun z1590 h1590 => ?_)
  refine cadd 1592 _ (lI3 157 rfl) rfl rfl (by omega) (by omega) (fun z1591 h1591 => ?_)
  refine cscl 1593 (lI3 158 rfl) rfl (by omega) (by omega) (fun w1592 => ?_)
  refine cald 1594 (lI3 159 rfl) rfl rfl ?_
  refine cild2 1596 (lI3 160 rfl) rfl rfl ?_
  refine ccst 1597 (2) (lI3 161 rfl) rfl (by decide) (fun z1596 h1596 => ?_)
  refine cadd 1598 _ (lI3 162 rfl) rfl rfl (by omega) (by omega) (fun z1597 h1597 => ?_)
  refine cscl 1599 (lI3 163 rfl) rfl (by omega) (by omega) (fun w1598 => ?_)
  refine cald 1600 (lI3 164 rfl) rfl rfl ?_
  refine cild2 1602 (lI3 165 rfl) rfl rfl ?_
  refine ccst 1603 (3) (lI3 166 rfl) rfl (by decide) (fun z1602 h1602 => ?_)
  refine cadd 1604 _ (lI3 167 rfl) rfl rfl (by omega) (by omega) (fun z1603 h1603 => ?_)
  refine cscl 1605 (lI3 168 rfl) rfl (by omega) (by omega) (fun w1604 => ?_)
  refine cald 1606 (lI3 169 rfl) rfl rfl ?_
  refine ccall (kd := 1) (t := 0) [.ref 0, .int _, .int _, .int _, .ref 83] [] hI.1.1 (lI3 170 rfl) (Or.inr ⟨_, rfl, rfl, by decide⟩) rfl rfl rfl ⟨rfl, rfl, rfl⟩ rfl rfl rfl (h372J (d := 579) hI (fun r1606 hp1606 mc ms hI1606 hmc hms => Or.inl ⟨_, rfl, ?_⟩))
  refine cistU 1611 (lI3 171 rfl) rfl rfl rfl ?_
  refine cald 1612 (lI3 172 rfl) rfl rfl ?_
  refine cald 1613 (lI3 173 rfl) rfl rfl ?_
  refine cild2 1615 (lI3 174 rfl) rfl rfl ?_
  refine ccst 1616 (1) (lI3 175 rfl) rfl (by decide) (fun z1615 h1615 => ?_)
  refine cadd 1617 _ (lI3 176 rfl) rfl rfl (by omega) (by omega) (fun z1616 h1616 => ?_)
  refine cscl 1618 (lI3 177 rfl) rfl (by omega) (by omega) (fun w1617 => ?_)
  refine cald 1619 (lI3 178 rfl) rfl rfl ?_
  refine cild2 1621 (lI3 179 rfl) rfl rfl ?_
  refine ccst 1622 (2) (lI3 180 rfl) rfl (by decide) (fun z1621 h1621 => ?_)
  refine cadd 1623 _ (lI3 181 rfl) rfl rfl (by omega) (by omega) (fun z1622 h1622 => ?_)
  refine cscl 1624 (lI3 182 rfl) rfl (by omega) (by omega) (fun w1623 => ?_)
  refine cald 1625 (lI3 183 rfl) rfl rfl ?_
  refine cild2 1627 (lI3 184 rfl) rfl rfl ?_
  refine ccst 1628 (3) (lI3 185 rfl) rfl (by decide) (fun z1627 h1627 => ?_)
  refine cadd 1629 _ (lI3 186 rfl) rfl rfl (by omega) (by omega) (fun z1628 h1628 => ?_)
  refine cscl 1630 (lI3 187 rfl) rfl (by omega) (by omega) (fun w1629 => ?_)
  refine ccall (kd := 0) (t := 0) [.ref 66, .int _, .int _, .int _] [] hI1606.1.1 (lI3 188 rfl) (Or.inl ⟨_, rfl, rfl, by decide, by decide⟩) rfl rfl rfl ⟨rfl, rfl, rfl⟩ rfl (recv66 hI1606.1.1 _) rfl (qIJ p315_sQ rfl hI1606 ⟨a66r, ai _, ai _, ai _, trivial⟩ rfl rfl rfl (fun r1630 hp1630 hI1630 => Or.inl ⟨_, rfl, ?_⟩) (fun E _ _ hE => by cases hE))
  refine cistU 1635 (lI3 189 rfl) rfl rfl rfl ?_
  refine cgoto (lI3 190 rfl) ?_
  exact cmono (hN hp1630 hI1630) (fun y hp9 m9 s9 h9 => ⟨h9.1, by have := h9.2.1; omega, by have := h9.2.2; omega⟩)
theorem cs39J {sc : List Int32} {b : Nat} {i : Int32} {hp : amH} (i0 : 0 ≤ i.toInt) (i1 : i.toInt + 6 ≤ (sc.length : Int)) (hL : sc.length ≤ 100000) (hI : lawJ hp) (hN : ∀ hp1, lawJ hp1 → lV sc b 2256 i hp1) : lV sc (b + 1) 1638 i hp := by
  refine cald 1639 (lI3 191 rfl) rfl rfl ?_
  refine cald 1640 (lI3 192 rfl) rfl rfl ?_
  refine cild2 1642 (lI3 193 rfl) rfl rfl ?_
  refine ccst 1643 (1) (lI3 194 rfl) rfl (by decide) (fun z1642 h1642 => ?_)
  refine cadd 1644 _ (lI3 195 rfl) rfl rfl (by omega) (by omega) (fun z1643 h1643 => ?_)
  refine cscl 1645 (lI3 196 rfl) rfl (by omega) (by omega) (fun w1644 => ?_)
  refine cald 1646 (lI3 197 rfl) rfl rfl ?_
  refine cild2 1648 (lI3 198 rfl) rfl rfl ?_
  refine ccst 1649 (2) (lI3 199 rfl) rfl (by decide) (fun z1648 h1648 => ?_)
  refine cadd 1650 _ (lI3 200 rfl) rfl rfl (by omega) (by omega) (fun z1649 h1649 => ?_)
  refine cscl 1651 (lI3 201 rfl) rfl (by omega) (by omega) (fun w1650 => ?_)
  refine cald 1652 (lI3 202 rfl) rfl rfl ?_
  refine cild2 1654 (lI3 203 rfl) rfl rfl ?_
  refine ccst 1655 (3) (lI3 204 rfl) rfl (by decide) (fun z1654 h1654 => ?_)
  refine cadd 1656 _ (lI3 205 rfl) rfl rfl (by omega) (by omega) (fun z1655 h1655 => ?_)
  refine cscl 1657 (lI3 206 rfl) rfl (by omega) (by omega) (fun w1656 => ?_)
  refine cald 1658 (lI3 207 rfl) rfl rfl ?_
  refine ccall (kd := 1) (t := 0) [.ref 0, .int _, .int _, .int _, .ref 83] [] hI.1.1 (lI3 208 rfl) (Or.inr ⟨_, rfl, rfl, by decide⟩) rfl rfl rfl ⟨rfl, rfl, rfl⟩ rfl rfl rfl (h373J (d := 579) hI (fun r1658 hp1658 mc ms hI1658 hmc hms => Or.inl ⟨_, rfl, ?_⟩))
  refine cistU 1663 (lI3 209 rfl) rfl rfl rfl ?_
  refine cald 1664 (lI3 210 rfl) rfl rfl ?_
  refine cald 1665 (lI3 211 rfl) rfl rfl ?_
  refine cild2 1667 (lI3 212 rfl) rfl rfl ?_
  refine ccst 1668 (1) (lI3 213 rfl) rfl (by decide) (fun z1667 h1667 => ?_)
  refine cadd 1669 _ (lI3 214 rfl) rfl rfl (by omega) (by omega) (fun z1668 h1668 => ?_)
  refine cscl 1670 (lI3 215 rfl) rfl (by omega) (by omega) (fun w1669 => ?_)
  refine cald 1671 (lI3 216 rfl) rfl rfl ?_
  refine cild2 1673 (lI3 217 rfl) rfl rfl ?_
  refine ccst 1674 (2) (lI3 218 rfl) rfl (by decide) (fun z1673 h1673 => ?_)
  refine cadd 1675 _ (lI3 219 rfl) rfl rfl (by omega) (by omega) (fun z1674 h1674 => ?_)
  refine cscl 1676 (lI3 220 rfl) rfl (by omega) (by omega) (fun w1675 => ?_)
  refine cald 1677 (lI3 221 rfl) rfl rfl ?_
  refine cild2 1679 (lI3 222 rfl) rfl rfl ?_
  refine ccst 1680 (3) (lI3 223 rfl) rfl (by decide) (fun z1679 h1679 => ?_)
  refine cadd 1681 _ (lI3 224 rfl) rfl rfl (by omega) (by omega) (fun z1680 h1680 => ?_)
  refine cscl 1682 (lI3 225 rfl) rfl (by omega) (by omega) (fun w1681 => ?_)
  refine ccall (kd := 0) (t := 0) [.ref 66, .int _, .int _, .int _] [] hI1658.1.1 (lI3 226 rfl) (Or.inl ⟨_, rfl, rfl, by decide, by decide⟩) rfl rfl rfl ⟨rfl, rfl, rfl⟩ rfl (recv66 hI1658.1.1 _) rfl (qIJ p316_sQ rfl hI1658 ⟨a66r, ai _, ai _, ai _, trivial⟩ rfl rfl rfl (fun r1682 hp1682 hI1682 => Or.inl ⟨_, rfl, ?_⟩) (fun E _ _ hE => by cases hE))
  refine cistU 1687 (lI3 227 rfl) rfl rfl rfl ?_
  refine cgoto (lI3 228 rfl) ?_
  exact cmono (hN hp1682 hI1682) (fun y hp9 m9 s9 h9 => ⟨h9.1, by have := h9.2.1; omega, by have := h9.2.2; omega⟩)
theorem cs40J {sc : List Int32} {b : Nat} {i : Int32} {hp : amH} (i0 : 0 ≤ i.toInt) (i1 : i.toInt + 6 ≤ (sc.length : Int)) (hL : sc.length ≤ 100000) (hI : lawJ hp) (hN : ∀ hp1, lawJ hp1 → lV sc b 2256 i hp1) : lV sc (b + 1) 1690 i hp := by
  refine cald 1691 (lI3 229 rfl) rfl rfl ?_
  refine cald 1692 (lI3 230 rfl) rfl rfl ?_
  refine cild2 1694 (lI3 231 rfl) rfl rfl ?_
  refine ccst 1695 (1) (lI3 232 rfl) rfl (by decide) (fun z1694 h1694 => ?_)
  refine cadd 1696 _ (lI3 233 rfl) rfl rfl (by omega) (by omega) (fun z1695 h1695 => ?_)
  refine cscl 1697 (lI3 234 rfl) rfl (by omega) (by omega) (fun w1696 => ?_)
  refine cald 1698 (lI3 235 rfl) rfl rfl ?_
  refine cild2 1700 (lI3 236 rfl) rfl rfl ?_
  refine ccst 1701 (2) (lI3 237 rfl) rfl (by decide) (fun z1700 h1700 => ?_)
  refine cadd 1702 _ (lI3 238 rfl) rfl rfl (by omega) (by omega) (fun z1701 h1701 => ?_)
  refine cscl 1703 (lI3 239 rfl) rfl (by omega) (by omega) (fun w1702 => ?_)
  refine cald 1704 (lI3 240 rfl) rfl rfl ?_
  refine cild2 1706 (lI3 241 rfl) rfl rfl ?_
  refine ccst 1707 (3) (lI3 242 rfl) rfl (by decide) (fun z1706 h1706 => ?_)
  refine cadd 1708 _ (lI3 243 rfl) rfl rfl (by omega) (by omega) (fun z1707 h1707 => ?_)
  refine cscl 1709 (lI3 244 rfl) rfl (by omega) (by omega) (fun w1708 => ?_)
  refine cald 1710 (lI3 245 rfl) rfl rfl ?_
  refine ccall (kd := 1) (t := 0) [.ref 0, .int _, .int _, .int _, .ref 83] [] hI.1.1 (lI3 246 rfl) (Or.inr ⟨_, rfl, rfl, by decide⟩) rfl rfl rfl ⟨rfl, rfl, rfl⟩ rfl rfl rfl (h374J (d := 579) hI (fun r1710 hp1710 mc ms hI1710 hmc hms => Or.inl ⟨_, rfl, ?_⟩))
  refine cistU 1715 (lI3 247 rfl) rfl rfl rfl ?_
  refine cald 1716 (lI3 248 rfl) rfl rfl ?_
  refine cald 1717 (lI3 249 rfl) rfl rfl ?_
  refine cild2 1719 (lI4 0 rfl) rfl rfl ?_
  refine ccst 1720 (1) (lI4 1 rfl) rfl (by decide) (fun z1719 h1719 => ?_)
  refine cadd 1721 _ (lI4 2 rfl) rfl rfl (by omega) (by omega) (fun z1720 h1720 => ?_)
  refine cscl 1722 (lI4 3 rfl) rfl (by omega) (by omega) (fun w1721 => ?_)
  refine cald 1723 (lI4 4 rfl) rfl rfl ?_
  refine cild2 1725 (lI4 5 rfl) rfl rfl ?_
  refine ccst 1726 (2) (lI4 6 rfl) rfl (by decide) (fun z1725 h1725 => ?_)
  refine cadd 1727 _ (lI4 7 rfl) rfl rfl (by omega) (by omega) (fun z1726 h1726 => ?_)
  refine cscl 1728 (lI4 8 rfl) rfl (by omega) (by omega) (fun w1727 => ?_)
  refine cald 1729 (lI4 9 rfl) rfl rfl ?_
  refine cild2 1731 (lI4 10 rfl) rfl rfl ?_
  refine ccst 1732 (3) (lI4 11 rfl) rfl (by decide) (fun z1731 h1731 => ?_)
  refine cadd 1733 _ (lI4 12 rfl) rfl rfl (by omega) (by omega) (fun z1732 h1732 => ?_)
  refine cscl 1734 (lI4 13 rfl) rfl (by omega) (by omega) (fun w1733 => ?_)
  refine ccall (kd := 0) (t := 0) [.ref 66, .int _, .int _, .int _] [] hI1710.1.1 (lI4 14 rfl) (Or.inl ⟨_, rfl, rfl, by decide, by decide⟩) rfl rfl rfl ⟨rfl, rfl, rfl⟩ rfl (recv66 hI1710.1.1 _) rfl (qIJ p317_sQ rfl hI1710 ⟨a66r, ai _, ai _, ai _, trivial⟩ rfl rfl rfl (fun r1734 hp1734 hI1734 => Or.inl ⟨_, rfl, ?_⟩) (fun E _ _ hE => by cases hE))
  refine cistU 1739 (lI4 15 rfl) rfl rfl rfl ?_
  refine cgoto (lI4 16 rfl) ?_
  exact cmono (hN hp1734 hI1734) (fun y hp9 m9 s9 h9 => ⟨h9.1, by have := h9.2.1; omega, by have := h9.2.2; omega⟩)
theorem cs41J {sc : List Int32} {b : Nat} {i : Int32} {hp : amH} (i0 : 0 ≤ i.toInt) (i1 : i.toInt + 6 ≤ (sc.length : Int)) (hL : sc.length ≤ 100000) (hI : lawJ hp) (hN : ∀ hp1, lawJ hp1 → lV sc b 2256 i hp1) : lV sc (b + 1) 1742 i hp := by
  refine cald 1743 (lI4 17 rfl) rfl rfl ?_
  refine cald 1744 (lI4 18 rfl) rfl rfl ?_
  refine cild2 1746 (lI4 19 rfl) rfl rfl ?_
  refine ccst 1747 (1) (lI4 20 rfl) rfl (by decide) (fun z1746 h1746 => ?_)
  refine cadd 1748 _ (lI4 21 rfl) rfl rfl (by omega) (by omega) (fun z1747 h1747 => ?_)
  refine cscl 1749 (lI4 22 rfl) rfl (by omega) (by omega) (fun w1748 => ?_)
  refine cald 1750 (lI4 23 rfl) rfl rfl ?_
  refine ccall (kd := 1) (t := 0) [.ref 0, .int _, .ref 83] [] hI.1.1 (lI4 24 rfl) (Or.inr ⟨_, rfl, rfl, by decide⟩) rfl rfl rfl ⟨rfl, rfl, rfl⟩ rfl rfl rfl (h375J (d := 579) hI (fun r1750 hp1750 mc ms hI1750 hmc hms => Or.inl ⟨_, rfl, ?_⟩))
  refine cistU 1755 (lI4 25 rfl) rfl rfl rfl ?_
  refine cald 1756 (lI4 26 rfl) rfl rfl ?_
  refine cald 1757 (lI4 27 rfl) rfl rfl ?_
  refine cild2 1759 (lI4 28 rfl) rfl rfl ?_
  refine ccst 1760 (1) (lI4 29 rfl) rfl (by decide) (fun z1759 h1759 => ?_)
  refine cadd 1761 _ (lI4 30 rfl) rfl rfl (by omega) (by omega) (fun z1760 h1760 => ?_)
  refine cscl 1762 (lI4 31 rfl) rfl (by omega) (by omega) (fun w1761 => ?_)
  refine ccall (kd := 0) (t := 0) [.ref 66, .int _] [] hI1750.1.1 (lI4 32 rfl) (Or.inl ⟨_, rfl, rfl, by decide, by decide⟩) rfl rfl rfl ⟨rfl, rfl, rfl⟩ rfl (recv66 hI1750.1.1 _) rfl (qIJ p318_sQ rfl hI1750 ⟨a66r, ai _, trivial⟩ rfl rfl rfl (fun r1762 hp1762 hI1762 => Or.inl ⟨_, rfl, ?_⟩) (fun E _ _ hE => by cases hE))
  refine cistU 1767 (lI4 33 rfl) rfl rfl rfl ?_
  refine cgoto (lI4 34 rfl) ?_
  exact cmono (hN hp1762 hI1762) (fun y hp9 m9 s9 h9 => ⟨h9.1, by have := h9.2.1; omega, by have := h9.2.2; omega⟩)
theorem cs42J {sc : List Int32} {b : Nat} {i : Int32} {hp : amH} (i0 : 0 ≤ i.toInt) (i1 : i.toInt + 6 ≤ (sc.length : Int)) (hL : sc.length ≤ 100000) (hI : lawJ hp) (hN : ∀ hp1, lawJ hp1 → lV sc b 2256 i hp1) : lV sc (b + 1) 1770 i hp := by
  refine cald 1771 (lI4 35 rfl) rfl rfl ?_
  refine cald 1772 (lI4 36 rfl) rfl rfl ?_
  refine ccall (kd := 1) (t := 0) [.ref 0, .ref 83] [] hI.1.1 (lI4 37 rfl) (Or.inr ⟨_, rfl, rfl, by decide⟩) rfl rfl rfl ⟨rfl, rfl, rfl⟩ rfl rfl rfl (h376J (d := 579) hI (fun r1772 hp1772 mc ms hI1772 hmc hms => Or.inl ⟨_, rfl, ?_⟩))
  refine cistU 1777 (lI4 38 rfl) rfl rfl rfl ?_
  refine cald 1778 (lI4 39 rfl) rfl rfl ?_
  refine ccall (kd := 0) (t := 0) [.ref 66] [] hI1772.1.1 (lI4 40 rfl) (Or.inl ⟨_, rfl, rfl, by decide, by decide⟩) rfl rfl rfl ⟨rfl, rfl, rfl⟩ rfl (recv66 hI1772.1.1 _) rfl (qIJ p320_sQ rfl hI1772 ⟨a66r, trivial⟩ rfl rfl rfl (fun r1778 hp1778 hI1778 => Or.inl ⟨_, rfl, ?_⟩) (fun E _ _ hE => by cases hE))
  refine cistU 1783 (lI4 41 rfl) rfl rfl rfl ?_
  refine cgoto (lI4 42 rfl) ?_
  exact cmono (hN hp1778 hI1778) (fun y hp9 m9 s9 h9 => ⟨h9.1, by have := h9.2.1; omega, by have := h9.2.2; omega⟩)
theorem cs43J {sc : List Int32} {b : Nat} {i : Int32} {hp : amH} (i0 : 0 ≤ i.toInt) (i1 : i.toInt + 6 ≤ (sc.length : Int)) (hL : sc.length ≤ 100000) (hI : lawJ hp) (hN : ∀ hp1, lawJ hp1 → lV sc b 2256 i hp1) : lV sc (b + 1) 1786 i hp := by
  refine cald 1787 (lI4 43 rfl) rfl rfl ?_
  refine cald 1788 (lI4 44 rfl) rfl rfl ?_
  refine cild2 1790 (lI4 45 rfl) rfl rfl ?_
  refine ccst 1791 (1) (lI4 46 rfl) rfl (by decide) (fun z1790 h1790 => ?_)
  refine cadd 1792 _ (lI4 47 rfl) rfl rfl (by omega) (by omega) (fun z1791 h1791 => ?_)
  refine cscl 1793 (lI4 48 rfl) rfl (by omega) (by omega) (fun w1792 => ?_)
  refine ccall (kd := 0) (t := 0) [.ref 0, .int _] [] hI.1.1 (lI4 49 rfl) (Or.inl ⟨_, rfl, rfl, by decide, by decide⟩) rfl rfl rfl ⟨rfl, rfl, rfl⟩ rfl (recv0 hI.1.1 _) rfl (qIJ (bL8_s be_131 (List.mem_of_getElem? (i := 60) rfl)) rfl hI ⟨a0r, ai _, trivial⟩ rfl rfl rfl (fun r1793 hp1793 hI1793 => Or.inl ⟨_, rfl, ?_⟩) (fun E _ _ hE => by cases hE))
  refine cpop 1797 (lI4 50 rfl) rfl rfl ?_
  refine cald 1798 (lI4 51 rfl) rfl rfl ?_
  refine cald 1799 (lI4 52 rfl) rfl rfl ?_
  refine cild2 1801 (lI4 53 rfl) rfl rfl ?_
  refine ccst 1802 (1) (lI4 54 rfl) rfl (by decide) (fun z1801 h1801 => ?_)
  refine cadd 1803 _ (lI4 55 rfl) rfl rfl (by omega) (by omega) (fun z1802 h1802 => ?_)
  refine cscl 1804 (lI4 56 rfl) rfl (by omega) (by omega) (fun w1803 => ?_)
  refine ccall (kd := 0) (t := 0) [.ref 66, .int _] [] hI1793.1.1 (lI4 57 rfl) (Or.inl ⟨_, rfl, rfl, by decide, by decide⟩) rfl rfl rfl ⟨rfl, rfl, rfl⟩ rfl (recv66 hI1793.1.1 _) rfl (qIJ (bQ6_s bf_69 (List.mem_of_getElem? (i := 64) rfl)) rfl hI1793 ⟨a66r, ai _, trivial⟩ rfl rfl rfl (fun r1804 hp1804 hI1804 => Or.inl ⟨_, rfl, ?_⟩) (fun E _ _ hE => by cases hE))
  refine cpop 1808 (lI4 58 rfl) rfl rfl ?_
  refine cgoto (lI4 59 rfl) ?_
  exact cmono (hN hp1804 hI1804) (fun y hp9 m9 s9 h9 => ⟨h9.1, by have := h9.2.1; omega, by have := h9.2.2; omega⟩)
theorem cs44J {sc : List Int32} {b : Nat} {i : Int32} {hp : amH} (i0 : 0 ≤ i.toInt) (i1 : i.toInt + 6 ≤ (sc.length : Int)) (hL : sc.length ≤ 100000) (hI : lawJ hp) (hN : ∀ hp1, lawJ hp1 → lV sc b 2256 i hp1) : lV sc (b + 1) 1811 i hp := by
  refine cald 1812 (lI4 60 rfl) rfl rfl ?_
  refine ccall (kd := 0) (t := 0) [.ref 0] [] hI.1.1 (lI4 61 rfl) (Or.inl ⟨_, rfl, rfl, by decide, by decide⟩) rfl rfl rfl ⟨rfl, rfl, rfl⟩ rfl (recv0 hI.1.1 _) rfl (qIJ (bL8_s be_133 (List.mem_of_getElem? (i := 58) rfl)) rfl hI ⟨a0r, trivial⟩ rfl rfl rfl (fun r1812 hp1812 hI1812 => Or.inl ⟨_, rfl, ?_⟩) (fun E _ _ hE => by cases hE))
  refine cpop 1816 (lI4 62 rfl) rfl rfl ?_
  refine cald 1817 (lI4 63 rfl) rfl rfl ?_
  refine ccall (kd := 0) (t := 0) [.ref 66] [] hI1812.1.1 (lI4 64 rfl) (Or.inl ⟨_, rfl, rfl, by decide, by decide⟩) rfl rfl rfl ⟨rfl, rfl, rfl⟩ rfl (recv66 hI1812.1.1 _) rfl (qIJ p322_sQ rfl hI1812 ⟨a66r, trivial⟩ rfl rfl rfl (fun r1817 hp1817 hI1817 => Or.inl ⟨_, rfl, ?_⟩) (fun E _ _ hE => by cases hE))
  refine cpop 1821 (lI4 65 rfl) rfl rfl ?_
  refine cgoto (lI4 66 rfl) ?_
  exact cmono (hN hp1817 hI1817) (fun y hp9 m9 s9 h9 => ⟨h9.1, by have := h9.2.1; omega, by have := h9.2.2; omega⟩)
theorem cs45J {sc : List Int32} {b : Nat} {i : Int32} {hp : amH} (i0 : 0 ≤ i.toInt) (i1 : i.toInt + 6 ≤ (sc.length : Int)) (hL : sc.length ≤ 100000) (hI : lawJ hp) (hN : ∀ hp1, lawJ hp1 → lV sc b 2256 i hp1) : lV sc (b + 1) 1824 i hp := by
  refine cald 1825 (lI4 67 rfl) rfl rfl ?_
  refine ccall (kd := 0) (t := 0) [.ref 0] [] hI.1.1 (lI4 68 rfl) (Or.inl ⟨_, rfl, rfl, by decide, by decide⟩) rfl rfl rfl ⟨rfl, rfl, rfl⟩ rfl (recv0 hI.1.1 _) rfl (qIJ (bL8_s be_135 (List.mem_of_getElem? (i := 56) rfl)) rfl hI ⟨a0r, trivial⟩ rfl rfl rfl (fun r1825 hp1825 hI1825 => Or.inl ⟨_, rfl, ?_⟩) (fun E _ _ hE => by cases hE))
  refine cpop 1829 (lI4 69 rfl) rfl rfl ?_
  refine cald 1830 (lI4 70 rfl) rfl rfl ?_
  refine ccall (kd := 0) (t := 0) [.ref 66] [] hI1825.1.1 (lI4 71 rfl) (Or.inl ⟨_, rfl, rfl, by decide, by decide⟩) rfl rfl rfl ⟨rfl, rfl, rfl⟩ rfl (recv66 hI1825.1.1 _) rfl (qIJ p323_sQ rfl hI1825 ⟨a66r, trivial⟩ rfl rfl rfl (fun r1830 hp1830 hI1830 => Or.inl ⟨_, rfl, ?_⟩) (fun E _ _ hE => by cases hE))
  refine cpop 1834 (lI4 72 rfl) rfl rfl ?_
  refine cgoto (lI4 73 rfl) ?_
  exact cmono (hN hp1830 hI1830) (fun y hp9 m9 s9 h9 => ⟨h9.1, by have := h9.2.1; omega, by have := h9.2.2; omega⟩)
theorem cs47J {sc : List Int32} {b : Nat} {i : Int32} {hp : amH} (i0 : 0 ≤ i.toInt) (i1 : i.toInt + 6 ≤ (sc.length : Int)) (hL : sc.length ≤ 100000) (hI : lawJ hp) (hN : ∀ hp1, lawJ hp1 → lV sc b 2256 i hp1) : lV sc (b + 1) 1862 i hp := by
  refine cald 1863 (lI4 91 rfl) rfl rfl ?_
  refine ccall (kd := 0) (t := 0) [.ref 0] [] hI.1.1 (lI4 92 rfl) (Or.inl ⟨_, rfl, rfl, by decide, by decide⟩) rfl rfl rfl ⟨rfl, rfl, rfl⟩ rfl (recv0 hI.1.1 _) rfl (qTJ (t := 2) (bL8_s be_137 (List.mem_of_getElem? (i := 54) rfl)) rfl hI ⟨a0r, trivial⟩ rfl rfl rfl (fun r1863 hp1863 hI1863 hw1863 => Or.inl ⟨_, rfl, ?_⟩) (fun E _ _ hE => by cases hE))
  obtain ⟨r1863, rfl⟩ := bTd hw1863 rfl
  refine cdstU 1868 (lI4 93 rfl) rfl rfl rfl ?_
  refine cald 1869 (lI4 94 rfl) rfl rfl ?_
  refine ccall (kd := 0) (t := 0) [.ref 66] [] hI1863.1.1 (lI4 95 rfl) (Or.inl ⟨_, rfl, rfl, by decide, by decide⟩) rfl rfl rfl ⟨rfl, rfl, rfl⟩ rfl (recv66 hI1863.1.1 _) rfl (qTJ (t := 2) (bQ6_s bf_34 (List.mem_of_getElem? (i := 99) rfl)) rfl hI1863 ⟨a66r, trivial⟩ rfl rfl rfl (fun r1869 hp1869 hI1869 hw1869 => Or.inl ⟨_, rfl, ?_⟩) (fun E _ _ hE => by cases hE))
  obtain ⟨r1869, rfl⟩ := bTd hw1869 rfl
  refine cdstU 1874 (lI4 96 rfl) rfl rfl rfl ?_
  refine cgoto (lI4 97 rfl) ?_
  exact cmono (hN hp1869 hI1869) (fun y hp9 m9 s9 h9 => ⟨h9.1, by have := h9.2.1; omega, by have := h9.2.2; omega⟩)
theorem cs48J {sc : List Int32} {b : Nat} {i : Int32} {hp : amH} (i0 : 0 ≤ i.toInt) (i1 : i.toInt + 6 ≤ (sc.length : Int)) (hL : sc.length ≤ 100000) (hI : lawJ hp) (hN : ∀ hp1, lawJ hp1 → lV sc b 2256 i hp1) : lV sc (b + 1) 1877 i hp := by
  refine cald 1878 (lI4 98 rfl) rfl rfl ?_
  refine ccall (kd := 0) (t := 0) [.ref 0] [] hI.1.1 (lI4 99 rfl) (Or.inl ⟨_, rfl, rfl, by decide, by decide⟩) rfl rfl rfl ⟨rfl, rfl, rfl⟩ rfl (recv0 hI.1.1 _) rfl (qTJ (t := 3) (bL8_s be_s161 (List.mem_of_getElem? (i := 37) rfl)) rfl hI ⟨a0r, trivial⟩ rfl rfl rfl (fun r1878 hp1878 hI1878 hw1878 => Or.inl ⟨_, rfl, ?_⟩) (fun E _ _ hE => by cases hE))
  obtain ⟨r1878, rfl, hx1878⟩ := bTf hw1878 rfl
  refine cf2d 1882 (lI4 100 rfl) rfl hx1878 (fun w1881 => ?_)
  refine cdstU 1884 (lI4 101 rfl) rfl rfl rfl ?_
  refine cald 1885 (lI4 102 rfl) rfl rfl ?_
  refine ccall (kd := 0) (t := 0) [.ref 66] [] hI1878.1.1 (lI4 103 rfl) (Or.inl ⟨_, rfl, rfl, by decide, by decide⟩) rfl rfl rfl ⟨rfl, rfl, rfl⟩ rfl (recv66 hI1878.1.1 _) rfl (qTJ (t := 3) (bQ6_s bf_70 (List.mem_of_getElem? (i := 63) rfl)) rfl hI1878 ⟨a66r, trivial⟩ rfl rfl rfl (fun r1885 hp1885 hI1885 hw1885 => Or.inl ⟨_, rfl, ?_⟩) (fun E _ _ hE => by cases hE))
  obtain ⟨r1885, rfl, hx1885⟩ := bTf hw1885 rfl
  refine cf2d 1889 (lI4 104 rfl) rfl hx1885 (fun w1888 => ?_)
  refine cdstU 1891 (lI4 105 rfl) rfl rfl rfl ?_
  refine cgoto (lI4 106 rfl) ?_
  exact cmono (hN hp1885 hI1885) (fun y hp9 m9 s9 h9 => ⟨h9.1, by have := h9.2.1; omega, by have := h9.2.2; omega⟩)
theorem cs49J {sc : List Int32} {b : Nat} {i : Int32} {hp : amH} (i0 : 0 ≤ i.toInt) (i1 : i.toInt + 6 ≤ (sc.length : Int)) (hL : sc.length ≤ 100000) (hI : lawJ hp) (hN : ∀ hp1, lawJ hp1 → lV sc b 2256 i hp1) : lV sc (b + 1) 1894 i hp := by
  refine cald 1895 (lI4 107 rfl) rfl rfl ?_
  refine cald 1896 (lI4 108 rfl) rfl rfl ?_
  refine cild2 1898 (lI4 109 rfl) rfl rfl ?_
  refine ccst 1899 (1) (lI4 110 rfl) rfl (by decide) (fun z1898 h1898 => ?_)
  refine cadd 1900 _ (lI4 111 rfl) rfl rfl (by omega) (by omega) (fun z1899 h1899 => ?_)
  refine cscl 1901 (lI4 112 rfl) rfl (by omega) (by omega) (fun w1900 => ?_)
  refine cald 1902 (lI4 113 rfl) rfl rfl ?_
  refine ccall (kd := 1) (t := 0) [.ref 0, .int _, .ref 83] [] hI.1.1 (lI4 114 rfl) (Or.inr ⟨_, rfl, rfl, by decide⟩) rfl rfl rfl ⟨rfl, rfl, rfl⟩ rfl rfl rfl (h377J (d := 579) hI (fun r1902 hp1902 mc ms hI1902 hmc hms => Or.inl ⟨_, rfl, ?_⟩))
  refine cistU 1907 (lI4 115 rfl) rfl rfl rfl ?_
  refine cald 1908 (lI4 116 rfl) rfl rfl ?_
  refine cald 1909 (lI4 117 rfl) rfl rfl ?_
  refine cild2 1911 (lI4 118 rfl) rfl rfl ?_
  refine ccst 1912 (1) (lI4 119 rfl) rfl (by decide) (fun z1911 h1911 => ?_)
  refine cadd 1913 _ (lI4 120 rfl) rfl rfl (by omega) (by omega) (fun z1912 h1912 => ?_)
  refine cscl 1914 (lI4 121 rfl) rfl (by omega) (by omega) (fun w1913 => ?_)
  refine ccall (kd := 0) (t := 0) [.ref 66, .int _] [] hI1902.1.1 (lI4 122 rfl) (Or.inl ⟨_, rfl, rfl, by decide, by decide⟩) rfl rfl rfl ⟨rfl, rfl, rfl⟩ rfl (recv66 hI1902.1.1 _) rfl (qIJ p327_sQ rfl hI1902 ⟨a66r, ai _, trivial⟩ rfl rfl rfl (fun r1914 hp1914 hI1914 => Or.inl ⟨_, rfl, ?_⟩) (fun E _ _ hE => by cases hE))
  refine cistU 1919 (lI4 123 rfl) rfl rfl rfl ?_
  refine cgoto (lI4 124 rfl) ?_
  exact cmono (hN hp1914 hI1914) (fun y hp9 m9 s9 h9 => ⟨h9.1, by have := h9.2.1; omega, by have := h9.2.2; omega⟩)
/-! ===== the law's cases (k) ===== -/
theorem cs50J {sc : List Int32} {b : Nat} {i : Int32} {hp : amH} (i0 : 0 ≤ i.toInt) (i1 : i.toInt + 6 ≤ (sc.length : Int)) (hL : sc.length ≤ 100000) (hI : lawJ hp) (hN : ∀ hp1, lawJ hp1 → lV sc b 2256 i hp1) : lV sc (b + 1) 1922 i hp := by
  refine cald 1923 (lI4 125 rfl) rfl rfl ?_
  refine ccall (kd := 0) (t := 0) [.ref 0] [] hI.1.1 (lI4 126 rfl) (Or.inl ⟨_, rfl, rfl, by decide, by decide⟩) rfl rfl rfl ⟨rfl, rfl, rfl⟩ rfl (recv0 hI.1.1 _) rfl (qIJ (bL8_s be_141 (List.mem_of_getElem? (i := 33) rfl)) rfl hI ⟨a0r, trivial⟩ rfl rfl rfl (fun r1923 hp1923 hI1923 => Or.inl ⟨_, rfl, ?_⟩) (fun E _ _ hE => by cases hE))
  refine cpop 1927 (lI4 127 rfl) rfl rfl ?_
  refine cald 1928 (lI4 128 rfl) rfl rfl ?_
  refine ccall (kd := 0) (t := 0) [.ref 66] [] hI1923.1.1 (lI4 129 rfl) (Or.inl ⟨_, rfl, rfl, by decide, by decide⟩) rfl rfl rfl ⟨rfl, rfl, rfl⟩ rfl (recv66 hI1923.1.1 _) rfl (qIJ (bQ6_s bf_83 (List.mem_of_getElem? (i := 50) rfl)) rfl hI1923 ⟨a66r, trivial⟩ rfl rfl rfl (fun r1928 hp1928 hI1928 => Or.inl ⟨_, rfl, ?_⟩) (fun E _ _ hE => by cases hE))
  refine cpop 1932 (lI4 130 rfl) rfl rfl ?_
  refine cgoto (lI4 131 rfl) ?_
  exact cmono (hN hp1928 hI1928) (fun y hp9 m9 s9 h9 => ⟨h9.1, by have := h9.2.1; omega, by have := h9.2.2; omega⟩)
theorem cs51J {sc : List Int32} {b : Nat} {i : Int32} {hp : amH} (i0 : 0 ≤ i.toInt) (i1 : i.toInt + 6 ≤ (sc.length : Int)) (hL : sc.length ≤ 100000) (hI : lawJ hp) (hN : ∀ hp1, lawJ hp1 → lV sc b 2256 i hp1) : lV sc (b + 1) 1935 i hp := by
  refine cald 1936 (lI4 132 rfl) rfl rfl ?_
  refine ccall (kd := 0) (t := 0) [.ref 0] [] hI.1.1 (lI4 133 rfl) (Or.inl ⟨_, rfl, rfl, by decide, by decide⟩) rfl rfl rfl ⟨rfl, rfl, rfl⟩ rfl (recv0 hI.1.1 _) rfl (qIJ (bL8_s be_143 (List.mem_of_getElem? (i := 31) rfl)) rfl hI ⟨a0r, trivial⟩ rfl rfl rfl (fun r1936 hp1936 hI1936 => Or.inl ⟨_, rfl, ?_⟩) (fun E _ _ hE => by cases hE))
  refine cpop 1940 (lI4 134 rfl) rfl rfl ?_
  refine cald 1941 (lI4 135 rfl) rfl rfl ?_
  refine ccall (kd := 0) (t := 0) [.ref 66] [] hI1936.1.1 (lI4 136 rfl) (Or.inl ⟨_, rfl, rfl, by decide, by decide⟩) rfl rfl rfl ⟨rfl, rfl, rfl⟩ rfl (recv66 hI1936.1.1 _) rfl (qIJ (bQ6_s bf_94 (List.mem_of_getElem? (i := 39) rfl)) rfl hI1936 ⟨a66r, trivial⟩ rfl rfl rfl (fun r1941 hp1941 hI1941 => Or.inl ⟨_, rfl, ?_⟩) (fun E _ _ hE => by cases hE))
  refine cpop 1945 (lI4 137 rfl) rfl rfl ?_
  refine cgoto (lI4 138 rfl) ?_
  exact cmono (hN hp1941 hI1941) (fun y hp9 m9 s9 h9 => ⟨h9.1, by have := h9.2.1; omega, by have := h9.2.2; omega⟩)
theorem cs52J {sc : List Int32} {b : Nat} {i : Int32} {hp : amH} (i0 : 0 ≤ i.toInt) (i1 : i.toInt + 6 ≤ (sc.length : Int)) (hL : sc.length ≤ 100000) (hI : lawJ hp) (hN : ∀ hp1, lawJ hp1 → lV sc b 2256 i hp1) : lV sc (b + 1) 1948 i hp := by
  refine cald 1949 (lI4 139 rfl) rfl rfl ?_
  refine cald 1950 (lI4 140 rfl) rfl rfl ?_
  refine cild2 1952 (lI4 141 rfl) rfl rfl ?_
  refine ccst 1953 (1) (lI4 142 rfl) rfl (by decide) (fun z1952 h1952 => ?_)
  refine cadd 1954 _ (lI4 143 rfl) rfl rfl (by omega) (by omega) (fun z1953 h1953 => ?_)
  refine cscl 1955 (lI4 144 rfl) rfl (by omega) (by omega) (fun w1954 => ?_)
  refine cald 1956 (lI4 145 rfl) rfl rfl ?_
  refine ccall (kd := 1) (t := 0) [.ref 0, .int _, .ref 83] [] hI.1.1 (lI4 146 rfl) (Or.inr ⟨_, rfl, rfl, by decide⟩) rfl rfl rfl ⟨rfl, rfl, rfl⟩ rfl rfl rfl (h378J (d := 579) hI (fun r1956 hp1956 mc ms hI1956 hmc hms => Or.inl ⟨_, rfl, ?_⟩))
  refine cistU 1961 (lI4 147 rfl) rfl rfl rfl ?_
  refine cald 1962 (lI4 148 rfl) rfl rfl ?_
  refine cald 1963 (lI4 149 rfl) rfl rfl ?_
  refine cild2 1965 (lI4 150 rfl) rfl rfl ?_
  refine ccst 1966 (1) (lI4 151 rfl) rfl (by decide) (fun z1965 h1965 => ?_)
  refine cadd 1967 _ (lI4 152 rfl) rfl rfl (by omega) (by omega) (fun z1966 h1966 => ?_)
  refine cscl 1968 (lI4 153 rfl) rfl (by omega) (by omega) (fun w1967 => ?_)
  refine ccall (kd := 0) (t := 0) [.ref 66, .int _] [] hI1956.1.1 (lI4 154 rfl) (Or.inl ⟨_, rfl, rfl, by decide, by decide⟩) rfl rfl rfl ⟨rfl, rfl, rfl⟩ rfl (recv66 hI1956.1.1 _) rfl (qIJ (bQ6_s bf_95 (List.mem_of_getElem? (i := 38) rfl)) rfl hI1956 ⟨a66r, ai _, trivial⟩ rfl rfl rfl (fun r1968 hp1968 hI1968 => Or.inl ⟨_, rfl, ?_⟩) (fun E _ _ hE => by cases hE))
  refine cistU 1973 (lI4 155 rfl) rfl rfl rfl ?_
  refine cgoto (lI4 156 rfl) ?_
  exact cmono (hN hp1968 hI1968) (fun y hp9 m9 s9 h9 => ⟨h9.1, by have := h9.2.1; omega, by have := h9.2.2; omega⟩)
theorem cs53J {sc : List Int32} {b : Nat} {i : Int32} {hp : amH} (i0 : 0 ≤ i.toInt) (i1 : i.toInt + 6 ≤ (sc.length : Int)) (hL : sc.length ≤ 100000) (hI : lawJ hp) (hN : ∀ hp1, lawJ hp1 → lV sc b 2256 i hp1) : lV sc (b + 1) 1976 i hp := by
  refine cald 1977 (lI4 157 rfl) rfl rfl ?_
  refine ccall (kd := 0) (t := 0) [.ref 0] [] hI.1.1 (lI4 158 rfl) (Or.inl ⟨_, rfl, rfl, by decide, by decide⟩) rfl rfl rfl ⟨rfl, rfl, rfl⟩ rfl (recv0 hI.1.1 _) rfl (qIJ (bL8_s be_156 (List.mem_of_getElem? (i := 18) rfl)) rfl hI ⟨a0r, trivial⟩ rfl rfl rfl (fun r1977 hp1977 hI1977 => Or.inl ⟨_, rfl, ?_⟩) (fun E _ _ hE => by cases hE))
  refine cpop 1981 (lI4 159 rfl) rfl rfl ?_
  refine cald 1982 (lI4 160 rfl) rfl rfl ?_
  refine ccall (kd := 0) (t := 0) [.ref 66] [] hI1977.1.1 (lI4 161 rfl) (Or.inl ⟨_, rfl, rfl, by decide, by decide⟩) rfl rfl rfl ⟨rfl, rfl, rfl⟩ rfl (recv66 hI1977.1.1 _) rfl (qIJ (bQ6_s bf_132 (List.mem_of_getElem? (i := 1) rfl)) rfl hI1977 ⟨a66r, trivial⟩ rfl rfl rfl (fun r1982 hp1982 hI1982 => Or.inl ⟨_, rfl, ?_⟩) (fun E _ _ hE => by cases hE))
  refine cpop 1986 (lI4 162 rfl) rfl rfl ?_
  refine cgoto (lI4 163 rfl) ?_
  exact cmono (hN hp1982 hI1982) (fun y hp9 m9 s9 h9 => ⟨h9.1, by have := h9.2.1; omega, by have := h9.2.2; omega⟩)
theorem cs56J {sc : List Int32} {b : Nat} {i : Int32} {hp : amH} (i0 : 0 ≤ i.toInt) (i1 : i.toInt + 6 ≤ (sc.length : Int)) (hL : sc.length ≤ 100000) (hI : lawJ hp) (hN : ∀ hp1, lawJ hp1 → lV sc b 2256 i hp1) : lV sc (b + 1) 2057 i hp := by
  refine cald 2058 (lI4 210 rfl) rfl rfl ?_
  refine cald 2059 (lI4 211 rfl) rfl rfl ?_
  refine cild2 2061 (lI4 212 rfl) rfl rfl ?_
  refine ccst 2062 (1) (lI4 213 rfl) rfl (by decide) (fun z2061 h2061 => ?_)
  refine cadd 2063 _ (lI4 214 rfl) rfl rfl (by omega) (by omega) (fun z2062 h2062 => ?_)
  refine cscl 2064 (lI4 215 rfl) rfl (by omega) (by omega) (fun w2063 => ?_)
  refine cald 2065 (lI4 216 rfl) rfl rfl ?_
  refine cild2 2067 (lI4 217 rfl) rfl rfl ?_
  refine ccst 2068 (2) (lI4 218 rfl) rfl (by decide) (fun z2067 h2067 => ?_)
  refine cadd 2069 _ (lI4 219 rfl) rfl rfl (by omega) (by omega) (fun z2068 h2068 => ?_)
  refine cscl 2070 (lI4 220 rfl) rfl (by omega) (by omega) (fun w2069 => ?_)
  refine cald 2071 (lI4 221 rfl) rfl rfl ?_
  refine cild2 2073 (lI4 222 rfl) rfl rfl ?_
  refine ccst 2074 (3) (lI4 223 rfl) rfl (by decide) (fun z2073 h2073 => ?_)
  refine cadd 2075 _ (lI4 224 rfl) rfl rfl (by omega) (by omega) (fun z2074 h2074 => ?_)
  refine cscl 2076 (lI4 225 rfl) rfl (by omega) (by omega) (fun w2075 => ?_)
  refine cald 2077 (lI4 226 rfl) rfl rfl ?_
  refine ccall (kd := 1) (t := 0) [.ref 0, .int _, .int _, .int _, .ref 83] [] hI.1.1 (lI4 227 rfl) (Or.inr ⟨_, rfl, rfl, by decide⟩) rfl rfl rfl ⟨rfl, rfl, rfl⟩ rfl rfl rfl (h381J (d := 579) hI (fun r2077 hp2077 mc ms hI2077 hmc hms => Or.inl ⟨_, rfl, ?_⟩))
  refine cistU 2082 (lI4 228 rfl) rfl rfl rfl ?_
  refine cald 2083 (lI4 229 rfl) rfl rfl ?_
  refine cald 2084 (lI4 230 rfl) rfl rfl ?_
  refine cild2 2086 (lI4 231 rfl) rfl rfl ?_
  refine ccst 2087 (1) (lI4 232 rfl) rfl (by decide) (fun z2086 h2086 => ?_)
  refine cadd 2088 _ (lI4 233 rfl) rfl rfl (by omega) (by omega) (fun z2087 h2087 => ?_)
  refine cscl 2089 (lI4 234 rfl) rfl (by omega) (by omega) (fun w2088 => ?_)
  refine cald 2090 (lI4 235 rfl) rfl rfl ?_
  refine cild2 2092 (lI4 236 rfl) rfl rfl ?_
  refine ccst 2093 (2) (lI4 237 rfl) rfl (by decide) (fun z2092 h2092 => ?_)
  refine cadd 2094 _ (lI4 238 rfl) rfl rfl (by omega) (by omega) (fun z2093 h2093 => ?_)
  refine cscl 2095 (lI4 239 rfl) rfl (by omega) (by omega) (fun w2094 => ?_)
  refine cald 2096 (lI4 240 rfl) rfl rfl ?_
  refine cild2 2098 (lI4 241 rfl) rfl rfl ?_
  refine ccst 2099 (3) (lI4 242 rfl) rfl (by decide) (fun z2098 h2098 => ?_)
  refine cadd 2100 _ (lI4 243 rfl) rfl rfl (by omega) (by omega) (fun z2099 h2099 => ?_)
  refine cscl 2101 (lI4 244 rfl) rfl (by omega) (by omega) (fun w2100 => ?_)
  refine ccall (kd := 0) (t := 0) [.ref 66, .int _, .int _, .int _] [] hI2077.1.1 (lI4 245 rfl) (Or.inl ⟨_, rfl, rfl, by decide, by decide⟩) rfl rfl rfl ⟨rfl, rfl, rfl⟩ rfl (recv66 hI2077.1.1 _) rfl (qIJ (bQ6_s bf_18 (List.mem_of_getElem? (i := 115) rfl)) rfl hI2077 ⟨a66r, ai _, ai _, ai _, trivial⟩ rfl rfl rfl (fun r2101 hp2101 hI2101 => Or.inl ⟨_, rfl, ?_⟩) (fun E _ _ hE => by cases hE))
  refine cistU 2106 (lI4 246 rfl) rfl rfl rfl ?_
  refine cgoto (lI4 247 rfl) ?_
  exact cmono (hN hp2101 hI2101) (fun y hp9 m9 s9 h9 => ⟨h9.1, by have := h9.2.1; omega, by have := h9.2.2; omega⟩)
theorem cs58J {sc : List Int32} {b : Nat} {i : Int32} {hp : amH} (i0 : 0 ≤ i.toInt) (i1 : i.toInt + 6 ≤ (sc.length : Int)) (hL : sc.length ≤ 100000) (hI : lawJ hp) (hN : ∀ hp1, lawJ hp1 → lV sc b 2256 i hp1) : lV sc (b + 1) 2161 i hp := by
  refine cald 2162 (lI5 36 rfl) rfl rfl ?_
  refine cald 2163 (lI5 37 rfl) rfl rfl ?_
  refine cild2 2165 (lI5 38 rfl) rfl rfl ?_
  refine ccst 2166 (1) (lI5 39 rfl) rfl (by decide) (fun z2165 h2165 => ?_)
  refine cadd 2167 _ (lI5 40 rfl) rfl rfl (by omega) (by omega) (fun z2166 h2166 => ?_)
  refine cscl 2168 (lI5 41 rfl) rfl (by omega) (by omega) (fun w2167 => ?_)
  refine cald 2169 (lI5 42 rfl) rfl rfl ?_
  refine ccall (kd := 1) (t := 0) [.ref 0, .int _, .ref 83] [] hI.1.1 (lI5 43 rfl) (Or.inr ⟨_, rfl, rfl, by decide⟩) rfl rfl rfl ⟨rfl, rfl, rfl⟩ rfl rfl rfl (h383J (d := 579) hI (fun r2169 hp2169 mc ms hI2169 hmc hms => Or.inl ⟨_, rfl, ?_⟩))
  refine cistU 2174 (lI5 44 rfl) rfl rfl rfl ?_
  refine cald 2175 (lI5 45 rfl) rfl rfl ?_
  refine cald 2176 (lI5 46 rfl) rfl rfl ?_
  refine cild2 2178 (lI5 47 rfl) rfl rfl ?_
  refine ccst 2179 (1) (lI5 48 rfl) rfl (by decide) (fun z2178 h2178 => ?_)
  refine cadd 2180 _ (lI5 49 rfl) rfl rfl (by omega) (by omega) (fun z2179 h2179 => ?_)
  refine cscl 2181 (lI5 50 rfl) rfl (by omega) (by omega) (fun w2180 => ?_)
  refine ccall (kd := 0) (t := 0) [.ref 66, .int _] [] hI2169.1.1 (lI5 51 rfl) (Or.inl ⟨_, rfl, rfl, by decide, by decide⟩) rfl rfl rfl ⟨rfl, rfl, rfl⟩ rfl (recv66 hI2169.1.1 _) rfl (qIJ p337_sQ rfl hI2169 ⟨a66r, ai _, trivial⟩ rfl rfl rfl (fun r2181 hp2181 hI2181 => Or.inl ⟨_, rfl, ?_⟩) (fun E _ _ hE => by cases hE))
  refine cistU 2186 (lI5 52 rfl) rfl rfl rfl ?_
  refine cgoto (lI5 53 rfl) ?_
  exact cmono (hN hp2181 hI2181) (fun y hp9 m9 s9 h9 => ⟨h9.1, by have := h9.2.1; omega, by have := h9.2.2; omega⟩)
theorem cs59J {sc : List Int32} {b : Nat} {i : Int32} {hp : amH} (i0 : 0 ≤ i.toInt) (i1 : i.toInt + 6 ≤ (sc.length : Int)) (hL : sc.length ≤ 100000) (hI : lawJ hp) (hN : ∀ hp1, lawJ hp1 → lV sc b 2256 i hp1) : lV sc (b + 1) 2189 i hp := by
  refine cald 2190 (lI5 54 rfl) rfl rfl ?_
  refine cald 2191 (lI5 55 rfl) rfl rfl ?_
  refine cild2 2193 (lI5 56 rfl) rfl rfl ?_
  refine ccst 2194 (1) (lI5 57 rfl) rfl (by decide) (fun z2193 h2193 => ?_)
  refine cadd 2195 _ (lI5 58 rfl) rfl rfl (by omega) (by omega) (fun z2194 h2194 => ?_)
  refine cscl 2196 (lI5 59 rfl) rfl (by omega) (by omega) (fun w2195 => ?_)
  refine ccall (kd := 0) (t := 0) [.ref 0, .int _] [] hI.1.1 (lI5 60 rfl) (Or.inl ⟨_, rfl, rfl, by decide, by decide⟩) rfl rfl rfl ⟨rfl, rfl, rfl⟩ rfl (recv0 hI.1.1 _) rfl (qIJ (bL8_s be_165 (List.mem_of_getElem? (i := 9) rfl)) rfl hI ⟨a0r, ai _, trivial⟩ rfl rfl rfl (fun r2196 hp2196 hI2196 => Or.inl ⟨_, rfl, ?_⟩) (fun E _ _ hE => by cases hE))
  refine cpop 2200 (lI5 61 rfl) rfl rfl ?_
  refine cald 2201 (lI5 62 rfl) rfl rfl ?_
  refine cald 2202 (lI5 63 rfl) rfl rfl ?_
  refine cild2 2204 (lI5 64 rfl) rfl rfl ?_
  refine ccst 2205 (1) (lI5 65 rfl) rfl (by decide) (fun z2204 h2204 => ?_)
  refine cadd 2206 _ (lI5 66 rfl) rfl rfl (by omega) (by omega) (fun z2205 h2205 => ?_)
  refine cscl 2207 (lI5 67 rfl) rfl (by omega) (by omega) (fun w2206 => ?_)
  refine ccall (kd := 0) (t := 0) [.ref 66, .int _] [] hI2196.1.1 (lI5 68 rfl) (Or.inl ⟨_, rfl, rfl, by decide, by decide⟩) rfl rfl rfl ⟨rfl, rfl, rfl⟩ rfl (recv66 hI2196.1.1 _) rfl (qIJ (bQ6_s bf_133 (List.mem_of_getElem? (i := 0) rfl)) rfl hI2196 ⟨a66r, ai _, trivial⟩ rfl rfl rfl (fun r2207 hp2207 hI2207 => Or.inl ⟨_, rfl, ?_⟩) (fun E _ _ hE => by cases hE))
  refine cpop 2211 (lI5 69 rfl) rfl rfl ?_
  refine cgoto (lI5 70 rfl) ?_
  exact cmono (hN hp2207 hI2207) (fun y hp9 m9 s9 h9 => ⟨h9.1, by have := h9.2.1; omega, by have := h9.2.2; omega⟩)
