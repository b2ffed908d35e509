/-! ===== the law's cases, one state kept ===== -/
theorem cs3J {sc : List Int32} {b : Nat} {i : Int32} {hp : amH} (i0 : 0 ≤ i.toInt) (i1 : i.toInt + 6 ≤ (sc.length : Int)) (hL : sc.length ≤ 100000) (hI : lawJ hp) (hN : ∀ hp1, lawJ hp1 → lV sc b 2284 i hp1) : lV sc (b + 1) 419 i hp := by
  refine cald 420 (lI0 106 rfl) rfl rfl ?_
  refine ccall (kd := 0) (t := 0) [.ref 0] [] hI.1.1 (lI0 107 rfl) (Or.inl ⟨_, rfl, rfl, by decide, by decide⟩) rfl rfl rfl ⟨rfl, rfl, rfl⟩ rfl (recv0 hI.1.1 _) rfl (qIJ (bL8_s be_28 (List.mem_of_getElem? (i := 168) rfl)) rfl hI ⟨a0r, trivial⟩ rfl rfl rfl (fun r420 hp420 hI420 => Or.inl ⟨_, rfl, ?_⟩) (fun E _ _ hE => by cases hE))
  refine cpop 424 (lI0 108 rfl) rfl rfl ?_
  refine cald 425 (lI0 109 rfl) rfl rfl ?_
  refine ccall (kd := 0) (t := 0) [.ref 66] [] hI420.1.1 (lI0 110 rfl) (Or.inl ⟨_, rfl, rfl, by decide, by decide⟩) rfl rfl rfl ⟨rfl, rfl, rfl⟩ rfl (recv66 hI420.1.1 _) rfl (qIJ (bQ6_s bf_2 (List.mem_of_getElem? (i := 131) rfl)) rfl hI420 ⟨a66r, trivial⟩ rfl rfl rfl (fun r425 hp425 hI425 => Or.inl ⟨_, rfl, ?_⟩) (fun E _ _ hE => by cases hE))
  refine cpop 429 (lI0 111 rfl) rfl rfl ?_
  refine cgoto (lI0 112 rfl) ?_
  exact cmono (hN hp425 hI425) (fun y hp9 m9 s9 h9 => ⟨h9.1, by have := h9.2.1; omega, by have := h9.2.2; omega⟩)
theorem cs4J {sc : List Int32} {b : Nat} {i : Int32} {hp : amH} (i0 : 0 ≤ i.toInt) (i1 : i.toInt + 6 ≤ (sc.length : Int)) (hL : sc.length ≤ 100000) (hI : lawJ hp) (hN : ∀ hp1, lawJ hp1 → lV sc b 2284 i hp1) : lV sc (b + 1) 432 i hp := by
  refine cald 433 (lI0 113 rfl) rfl rfl ?_
  refine ccall (kd := 0) (t := 0) [.ref 0] [] hI.1.1 (lI0 114 rfl) (Or.inl ⟨_, rfl, rfl, by decide, by decide⟩) rfl rfl rfl ⟨rfl, rfl, rfl⟩ rfl (recv0 hI.1.1 _) rfl (qIJ (bL8_s be_29 (List.mem_of_getElem? (i := 167) rfl)) rfl hI ⟨a0r, trivial⟩ rfl rfl rfl (fun r433 hp433 hI433 => Or.inl ⟨_, rfl, ?_⟩) (fun E _ _ hE => by cases hE))
  refine cpop 437 (lI0 115 rfl) rfl rfl ?_
  refine cald 438 (lI0 116 rfl) rfl rfl ?_
  refine ccall (kd := 0) (t := 0) [.ref 66] [] hI433.1.1 (lI0 117 rfl) (Or.inl ⟨_, rfl, rfl, by decide, by decide⟩) rfl rfl rfl ⟨rfl, rfl, rfl⟩ rfl (recv66 hI433.1.1 _) rfl (qIJ (bQ6_s bf_3 (List.mem_of_getElem? (i := 130) rfl)) rfl hI433 ⟨a66r, trivial⟩ rfl rfl rfl (fun r438 hp438 hI438 => Or.inl ⟨_, rfl, ?_⟩) (fun E _ _ hE => by cases hE))
  refine cpop 442 (lI0 118 rfl) rfl rfl ?_
  refine cgoto (lI0 119 rfl) ?_
  exact cmono (hN hp438 hI438) (fun y hp9 m9 s9 h9 => ⟨h9.1, by have := h9.2.1; omega, by have := h9.2.2; omega⟩)
theorem cs5J {sc : List Int32} {b : Nat} {i : Int32} {hp : amH} (i0 : 0 ≤ i.toInt) (i1 : i.toInt + 6 ≤ (sc.length : Int)) (hL : sc.length ≤ 100000) (hI : lawJ hp) (hN : ∀ hp1, lawJ hp1 → lV sc b 2284 i hp1) : lV sc (b + 1) 445 i hp := by
  refine cald 446 (lI0 120 rfl) rfl rfl ?_
  refine cald 447 (lI0 121 rfl) rfl rfl ?_
  refine cild2 449 (lI0 122 rfl) rfl rfl ?_
  refine ccst 450 (1) (lI0 123 rfl) rfl (by decide) (fun z449 h449 => ?_)
  refine cadd 451 _ (lI0 124 rfl) rfl rfl (by omega) (by omega) (fun z450 h450 => ?_)
  refine cscl 452 (lI0 125 rfl) rfl (by omega) (by omega) (fun w451 => ?_)
  refine cald 453 (lI0 126 rfl) rfl rfl ?_
  refine ccall (kd := 1) (t := 0) [.ref 0, .int _, .ref 83] [] hI.1.1 (lI0 127 rfl) (Or.inr ⟨_, rfl, rfl, by decide⟩) rfl rfl rfl ⟨rfl, rfl, rfl⟩ rfl rfl rfl (h348J (d := 579) hI (fun r453 hp453 mc ms hI453 hmc hms => Or.inl ⟨_, rfl, ?_⟩))
  refine cistU 458 (lI0 128 rfl) rfl rfl rfl ?_
  refine cald 459 (lI0 129 rfl) rfl rfl ?_
  refine cald 460 (lI0 130 rfl) rfl rfl ?_
  refine cild2 462 (lI0 131 rfl) rfl rfl ?_
  refine ccst 463 (1) (lI0 132 rfl) rfl (by decide) (fun z462 h462 => ?_)
  refine cadd 464 _ (lI0 133 rfl) rfl rfl (by omega) (by omega) (fun z463 h463 => ?_)
  refine cscl 465 (lI0 134 rfl) rfl (by omega) (by omega) (fun w464 => ?_)
  refine ccall (kd := 0) (t := 0) [.ref 66, .int _] [] hI453.1.1 (lI0 135 rfl) (Or.inl ⟨_, rfl, rfl, by decide, by decide⟩) rfl rfl rfl ⟨rfl, rfl, rfl⟩ rfl (recv66 hI453.1.1 _) rfl (qIJ (bQ6_s bf_10 (List.mem_of_getElem? (i := 123) rfl)) rfl hI453 ⟨a66r, ai _, trivial⟩ rfl rfl rfl (fun r465 hp465 hI465 => Or.inl ⟨_, rfl, ?_⟩) (fun E _ _ hE => by cases hE))
  refine cistU 470 (lI0 136 rfl) rfl rfl rfl ?_
  refine cgoto (lI0 137 rfl) ?_
  exact cmono (hN hp465 hI465) (fun y hp9 m9 s9 h9 => ⟨h9.1, by have := h9.2.1; omega, by have := h9.2.2; omega⟩)
theorem cs6J {sc : List Int32} {b : Nat} {i : Int32} {hp : amH} (i0 : 0 ≤ i.toInt) (i1 : i.toInt + 6 ≤ (sc.length : Int)) (hL : sc.length ≤ 100000) (hI : lawJ hp) (hN : ∀ hp1, lawJ hp1 → lV sc b 2284 i hp1) : lV sc (b + 1) 473 i hp := by
  refine cald 474 (lI0 138 rfl) rfl rfl ?_
  refine ccall (kd := 0) (t := 0) [.ref 0] [] hI.1.1 (lI0 139 rfl) (Or.inl ⟨_, rfl, rfl, by decide, by decide⟩) rfl rfl rfl ⟨rfl, rfl, rfl⟩ rfl (recv0 hI.1.1 _) rfl (qIJ (bL8_s be_32 (List.mem_of_getElem? (i := 164) rfl)) rfl hI ⟨a0r, trivial⟩ rfl rfl rfl (fun r474 hp474 hI474 => Or.inl ⟨_, rfl, ?_⟩) (fun E _ _ hE => by cases hE))
  refine cpop 478 (lI0 140 rfl) rfl rfl ?_
  refine cald 479 (lI0 141 rfl) rfl rfl ?_
  refine ccall (kd := 0) (t := 0) [.ref 66] [] hI474.1.1 (lI0 142 rfl) (Or.inl ⟨_, rfl, rfl, by decide, by decide⟩) rfl rfl rfl ⟨rfl, rfl, rfl⟩ rfl (recv66 hI474.1.1 _) rfl (qIJ (bQ6_s bf_11 (List.mem_of_getElem? (i := 122) rfl)) rfl hI474 ⟨a66r, trivial⟩ rfl rfl rfl (fun r479 hp479 hI479 => Or.inl ⟨_, rfl, ?_⟩) (fun E _ _ hE => by cases hE))
  refine cpop 483 (lI0 143 rfl) rfl rfl ?_
  refine cgoto (lI0 144 rfl) ?_
  exact cmono (hN hp479 hI479) (fun y hp9 m9 s9 h9 => ⟨h9.1, by have := h9.2.1; omega, by have := h9.2.2; omega⟩)
theorem cs7J {sc : List Int32} {b : Nat} {i : Int32} {hp : amH} (i0 : 0 ≤ i.toInt) (i1 : i.toInt + 6 ≤ (sc.length : Int)) (hL : sc.length ≤ 100000) (hI : lawJ hp) (hN : ∀ hp1, lawJ hp1 → lV sc b 2284 i hp1) : lV sc (b + 1) 486 i hp := by
  refine cald 487 (lI0 145 rfl) rfl rfl ?_
  refine cald 488 (lI0 146 rfl) rfl rfl ?_
  refine cild2 490 (lI0 147 rfl) rfl rfl ?_
  refine ccst 491 (1) (lI0 148 rfl) rfl (by decide) (fun z490 h490 => ?_)
  refine cadd 492 _ (lI0 149 rfl) rfl rfl (by omega) (by omega) (fun z491 h491 => ?_)
  refine cscl 493 (lI0 150 rfl) rfl (by omega) (by omega) (fun w492 => ?_)
  refine cald 494 (lI0 151 rfl) rfl rfl ?_
  refine cild2 496 (lI0 152 rfl) rfl rfl ?_
  refine ccst 497 (2) (lI0 153 rfl) rfl (by decide) (fun z496 h496 => ?_)
  refine cadd 498 _ (lI0 154 rfl) rfl rfl (by omega) (by omega) (fun z497 h497 => ?_)
  refine cscl 499 (lI0 155 rfl) rfl (by omega) (by omega) (fun w498 => ?_)
  refine cald 500 (lI0 156 rfl) rfl rfl ?_
  refine ccall (kd := 1) (t := 0) [.ref 0, .int _, .int _, .ref 83] [] hI.1.1 (lI0 157 rfl) (Or.inr ⟨_, rfl, rfl, by decide⟩) rfl rfl rfl ⟨rfl, rfl, rfl⟩ rfl rfl rfl (h349J (d := 579) hI (fun r500 hp500 mc ms hI500 hmc hms => Or.inl ⟨_, rfl, ?_⟩))
  refine cistU 505 (lI0 158 rfl) rfl rfl rfl ?_
  refine cald 506 (lI0 159 rfl) rfl rfl ?_
  refine cald 507 (lI0 160 rfl) rfl rfl ?_
  refine cild2 509 (lI0 161 rfl) rfl rfl ?_
  refine ccst 510 (1) (lI0 162 rfl) rfl (by decide) (fun z509 h509 => ?_)
  refine cadd 511 _ (lI0 163 rfl) rfl rfl (by omega) (by omega) (fun z510 h510 => ?_)
  refine cscl 512 (lI0 164 rfl) rfl (by omega) (by omega) (fun w511 => ?_)
  refine cald 513 (lI0 165 rfl) rfl rfl ?_
  refine cild2 515 (lI0 166 rfl) rfl rfl ?_
  refine ccst 516 (2) (lI0 167 rfl) rfl (by decide) (fun z515 h515 => ?_)
  refine cadd 517 _ (lI0 168 rfl) rfl rfl (by omega) (by omega) (fun z516 h516 => ?_)
  refine cscl 518 (lI0 169 rfl) rfl (by omega) (by omega) (fun w517 => ?_)
  refine ccall (kd := 0) (t := 0) [.ref 66, .int _, .int _] [] hI500.1.1 (lI0 170 rfl) (Or.inl ⟨_, rfl, rfl, by decide, by decide⟩) rfl rfl rfl ⟨rfl, rfl, rfl⟩ rfl (recv66 hI500.1.1 _) rfl (qIJ (bQ6_s bf_12 (List.mem_of_getElem? (i := 121) rfl)) rfl hI500 ⟨a66r, ai _, ai _, trivial⟩ rfl rfl rfl (fun r518 hp518 hI518 => Or.inl ⟨_, rfl, ?_⟩) (fun E _ _ hE => by cases hE))
  refine cistU 523 (lI0 171 rfl) rfl rfl rfl ?_
  refine cgoto (lI0 172 rfl) ?_
  exact cmono (hN hp518 hI518) (fun y hp9 m9 s9 h9 => ⟨h9.1, by have := h9.2.1; omega, by have := h9.2.2; omega⟩)
theorem cs8J {sc : List Int32} {b : Nat} {i : Int32} {hp : amH} (i0 : 0 ≤ i.toInt) (i1 : i.toInt + 6 ≤ (sc.length : Int)) (hL : sc.length ≤ 100000) (hI : lawJ hp) (hN : ∀ hp1, lawJ hp1 → lV sc b 2284 i hp1) : lV sc (b + 1) 526 i hp := by
  refine cald 527 (lI0 173 rfl) rfl rfl ?_
  refine cald 528 (lI0 174 rfl) rfl rfl ?_
  refine cild2 530 (lI0 175 rfl) rfl rfl ?_
  refine ccst 531 (1) (lI0 176 rfl) rfl (by decide) (fun z530 h530 => ?_)
  refine cadd 532 _ (lI0 177 rfl) rfl rfl (by omega) (by omega) (fun z531 h531 => ?_)
  refine cscl 533 (lI0 178 rfl) rfl (by omega) (by omega) (fun w532 => ?_)
  refine cald 534 (lI0 179 rfl) rfl rfl ?_
  refine cild2 536 (lI0 180 rfl) rfl rfl ?_
  refine ccst 537 (2) (lI0 181 rfl) rfl (by decide) (fun z536 h536 => ?_)
  refine cadd 538 _ (lI0 182 rfl) rfl rfl (by omega) (by omega) (fun z537 h537 => ?_)
  refine cscl 539 (lI0 183 rfl) rfl (by omega) (by omega) (fun w538 => ?_)
  refine cald 540 (lI0 184 rfl) rfl rfl ?_
  refine cild2 542 (lI0 185 rfl) rfl rfl ?_
  refine ccst 543 (3) (lI0 186 rfl) rfl (by decide) (fun z542 h542 => ?_)
  refine cadd 544 _ (lI0 187 rfl) rfl rfl (by omega) (by omega) (fun z543 h543 => ?_)
  refine cscl 545 (lI0 188 rfl) rfl (by omega) (by omega) (fun w544 => ?_)
  refine cald 546 (lI0 189 rfl) rfl rfl ?_
  refine ccall (kd := 1) (t := 0) [.ref 0, .int _, .int _, .int _, .ref 83] [] hI.1.1 (lI0 190 rfl) (Or.inr ⟨_, rfl, rfl, by decide⟩) rfl rfl rfl ⟨rfl, rfl, rfl⟩ rfl rfl rfl (h350J (d := 579) hI (fun r546 hp546 mc ms hI546 hmc hms => Or.inl ⟨_, rfl, ?_⟩))
  refine cistU 551 (lI0 191 rfl) rfl rfl rfl ?_
  refine cald 552 (lI0 192 rfl) rfl rfl ?_
  refine cald 553 (lI0 193 rfl) rfl rfl ?_
  refine cild2 555 (lI0 194 rfl) rfl rfl ?_
  refine ccst 556 (1) (lI0 195 rfl) rfl (by decide) (fun z555 h555 => ?_)
  refine cadd 557 _ (lI0 196 rfl) rfl rfl (by omega) (by omega) (fun z556 h556 => ?_)
  refine cscl 558 (lI0 197 rfl) rfl (by omega) (by omega) (fun w557 => ?_)
  refine cald 559 (lI0 198 rfl) rfl rfl ?_
  refine cild2 561 (lI0 199 rfl) rfl rfl ?_
  refine ccst 562 (2) (lI0 200 rfl) rfl (by decide) (fun z561 h561 => ?_)
  refine cadd 563 _ (lI0 201 rfl) rfl rfl (by omega) (by omega) (fun z562 h562 => ?_)
  refine cscl 564 (lI0 202 rfl) rfl (by omega) (by omega) (fun w563 => ?_)
  refine cald 565 (lI0 203 rfl) rfl rfl ?_
  refine cild2 567 (lI0 204 rfl) rfl rfl ?_
  refine ccst 568 (3) (lI0 205 rfl) rfl (by decide) (fun z567 h567 => ?_)
  refine cadd 569 _ (lI0 206 rfl) rfl rfl (by omega) (by omega) (fun z568 h568 => ?_)
  refine cscl 570 (lI0 207 rfl) rfl (by omega) (by omega) (fun w569 => ?_)
  refine ccall (kd := 0) (t := 0) [.ref 66, .int _, .int _, .int _] [] hI546.1.1 (lI0 208 rfl) (Or.inl ⟨_, rfl, rfl, by decide, by decide⟩) rfl rfl rfl ⟨rfl, rfl, rfl⟩ rfl (recv66 hI546.1.1 _) rfl (qIJ (bQ6_s bf_13 (List.mem_of_getElem? (i := 120) rfl)) rfl hI546 ⟨a66r, ai _, ai _, ai _, trivial⟩ rfl rfl rfl (fun r570 hp570 hI570 => Or.inl ⟨_, rfl, ?_⟩) (fun E _ _ hE => by cases hE))
  refine cistU 575 (lI0 209 rfl) rfl rfl rfl ?_
  refine cgoto (lI0 210 rfl) ?_
  exact cmono (hN hp570 hI570) (fun y hp9 m9 s9 h9 => ⟨h9.1, by have := h9.2.1; omega, by have := h9.2.2; omega⟩)
theorem cs9J {sc : List Int32} {b : Nat} {i : Int32} {hp : amH} (i0 : 0 ≤ i.toInt) (i1 : i.toInt + 6 ≤ (sc.length : Int)) (hL : sc.length ≤ 100000) (hI : lawJ hp) (hN : ∀ hp1, lawJ hp1 → lV sc b 2284 i hp1) : lV sc (b + 1) 578 i hp := by
  refine cald 579 (lI0 211 rfl) rfl rfl ?_
  refine cald 580 (lI0 212 rfl) rfl rfl ?_
  refine cild2 582 (lI0 213 rfl) rfl rfl ?_
  refine ccst 583 (1) (lI0 214 rfl) rfl (by decide) (fun z582 h582 => ?_)
  refine cadd 584 _ (lI0 215 rfl) rfl rfl (by omega) (by omega) (fun z583 h583 => ?_)
  refine cscl 585 (lI0 216 rfl) rfl (by omega) (by omega) (fun w584 => ?_)
  refine cald 586 (lI0 217 rfl) rfl rfl ?_
  refine cild2 588 (lI0 218 rfl) rfl rfl ?_
  refine ccst 589 (2) (lI0 219 rfl) rfl (by decide) (fun z588 h588 => ?_)
  refine cadd 590 _ (lI0 220 rfl) rfl rfl (by omega) (by omega) (fun z589 h589 => ?_)
  refine cscl 591 (lI0 221 rfl) rfl (by omega) (by omega) (fun w590 => ?_)
  refine cald 592 (lI0 222 rfl) rfl rfl ?_
  refine ccall (kd := 1) (t := 0) [.ref 0, .int _, .int _, .ref 83] [] hI.1.1 (lI0 223 rfl) (Or.inr ⟨_, rfl, rfl, by decide⟩) rfl rfl rfl ⟨rfl, rfl, rfl⟩ rfl rfl rfl (h351J (d := 579) hI (fun r592 hp592 mc ms hI592 hmc hms => Or.inl ⟨_, rfl, ?_⟩))
  refine cistU 597 (lI0 224 rfl) rfl rfl rfl ?_
  refine cald 598 (lI0 225 rfl) rfl rfl ?_
  refine cald 599 (lI0 226 rfl) rfl rfl ?_
  refine cild2 601 (lI0 227 rfl) rfl rfl ?_
  refine ccst 602 (1) (lI0 228 rfl) rfl (by decide) (fun z601 h601 => ?_)
  refine cadd 603 _ (lI0 229 rfl) rfl rfl (by omega) (by omega) (fun z602 h602 => ?_)
  refine cscl 604 (lI0 230 rfl) rfl (by omega) (by omega) (fun w603 => ?_)
  refine cald 605 (lI0 231 rfl) rfl rfl ?_
  refine cild2 607 (lI0 232 rfl) rfl rfl ?_
  refine ccst 608 (2) (lI0 233 rfl) rfl (by decide) (fun z607 h607 => ?_)
  refine cadd 609 _ (lI0 234 rfl) rfl rfl (by omega) (by omega) (fun z608 h608 => ?_)
  refine cscl 610 (lI0 235 rfl) rfl (by omega) (by omega) (fun w609 => ?_)
  refine ccall (kd := 0) (t := 0) [.ref 66, .int _, .int _] [] hI592.1.1 (lI0 236 rfl) (Or.inl ⟨_, rfl, rfl, by decide, by decide⟩) rfl rfl rfl ⟨rfl, rfl, rfl⟩ rfl (recv66 hI592.1.1 _) rfl (qIJ (bQ6_s bf_14 (List.mem_of_getElem? (i := 119) rfl)) rfl hI592 ⟨a66r, ai _, ai _, trivial⟩ rfl rfl rfl (fun r610 hp610 hI610 => Or.inl ⟨_, rfl, ?_⟩) (fun E _ _ hE => by cases hE))
  refine cistU 615 (lI0 237 rfl) rfl rfl rfl ?_
  refine cgoto (lI0 238 rfl) ?_
  exact cmono (hN hp610 hI610) (fun y hp9 m9 s9 h9 => ⟨h9.1, by have := h9.2.1; omega, by have := h9.2.2; omega⟩)
theorem cs10J {sc : List Int32} {b : Nat} {i : Int32} {hp : amH} (i0 : 0 ≤ i.toInt) (i1 : i.toInt + 6 ≤ (sc.length : Int)) (hL : sc.length ≤ 100000) (hI : lawJ hp) (hN : ∀ hp1, lawJ hp1 → lV sc b 2284 i hp1) : lV sc (b + 1) 618 i hp := by
  refine cald 619 (lI0 239 rfl) rfl rfl ?_
  refine cald 620 (lI0 240 rfl) rfl rfl ?_
  refine cild2 622 (lI0 241 rfl) rfl rfl ?_
  refine ccst 623 (1) (lI0 242 rfl) rfl (by decide) (fun z622 h622 => ?_)
  refine cadd 624 _ (lI0 243 rfl) rfl rfl (by omega) (by omega) (fun z623 h623 => ?_)
  refine cscl 625 (lI0 244 rfl) rfl (by omega) (by omega) (fun w624 => ?_)
  refine cald 626 (lI0 245 rfl) rfl rfl ?_
  refine ccall (kd := 1) (t := 0) [.ref 0, .int _, .ref 83] [] hI.1.1 (lI0 246 rfl) (Or.inr ⟨_, rfl, rfl, by decide⟩) rfl rfl rfl ⟨rfl, rfl, rfl⟩ rfl rfl rfl (h352J (d := 579) hI (fun r626 hp626 mc ms hI626 hmc hms => Or.inl ⟨_, rfl, ?_⟩))
  refine cistU 631 (lI0 247 rfl) rfl rfl rfl ?_
  refine cald 632 (lI0 248 rfl) rfl rfl ?_
  refine cald 633 (lI0 249 rfl) rfl rfl ?_
  refine cild2 635 (lI1 0 rfl) rfl rfl ?_
  refine ccst 636 (1) (lI1 1 rfl) rfl (by decide) (fun z635 h635 => ?_)
  refine cadd 637 _ (lI1 2 rfl) rfl rfl (by omega) (by omega) (fun z636 h636 => ?_)
  refine cscl 638 (lI1 3 rfl) rfl (by omega) (by omega) (fun w637 => ?_)
  refine ccall (kd := 0) (t := 0) [.ref 66, .int _] [] hI626.1.1 (lI1 4 rfl) (Or.inl ⟨_, rfl, rfl, by decide, by decide⟩) rfl rfl rfl ⟨rfl, rfl, rfl⟩ rfl (recv66 hI626.1.1 _) rfl (qIJ (bQ6_s bf_15 (List.mem_of_getElem? (i := 118) rfl)) rfl hI626 ⟨a66r, ai _, trivial⟩ rfl rfl rfl (fun r638 hp638 hI638 => Or.inl ⟨_, rfl, ?_⟩) (fun E _ _ hE => by cases hE))
  refine cistU 643 (lI1 5 rfl) rfl rfl rfl ?_
  refine cgoto (lI1 6 rfl) ?_
  exact cmono (hN hp638 hI638) (fun y hp9 m9 s9 h9 => ⟨h9.1, by have := h9.2.1; omega, by have := h9.2.2; omega⟩)
theorem cs11J {sc : List Int32} {b : Nat} {i : Int32} {hp : amH} (i0 : 0 ≤ i.toInt) (i1 : i.toInt + 6 ≤ (sc.length : Int)) (hL : sc.length ≤ 100000) (hI : lawJ hp) (hN : ∀ hp1, lawJ hp1 → lV sc b 2284 i hp1) : lV sc (b + 1) 646 i hp := by
  refine cald 647 (lI1 7 rfl) rfl rfl ?_
  refine cald 648 (lI1 8 rfl) rfl rfl ?_
  refine cild2 650 (lI1 9 rfl) rfl rfl ?_
  refine ccst 651 (1) (lI1 10 rfl) rfl (by decide) (fun z650 h650 => ?_)
  refine cadd 652 _ (lI1 11 rfl) rfl rfl (by omega) (by omega) (fun z651 h651 => ?_)
  refine cscl 653 (lI1 12 rfl) rfl (by omega) (by omega) (fun w652 => ?_)
  refine cald 654 (lI1 13 rfl) rfl rfl ?_
  refine ccall (kd := 1) (t := 0) [.ref 0, .int _, .ref 83] [] hI.1.1 (lI1 14 rfl) (Or.inr ⟨_, rfl, rfl, by decide⟩) rfl rfl rfl ⟨rfl, rfl, rfl⟩ rfl rfl rfl (h353J (d := 579) hI (fun r654 hp654 mc ms hI654 hmc hms => Or.inl ⟨_, rfl, ?_⟩))
  refine cistU 659 (lI1 15 rfl) rfl rfl rfl ?_
  refine cald 660 (lI1 16 rfl) rfl rfl ?_
  refine cald 661 (lI1 17 rfl) rfl rfl ?_
  refine cild2 663 (lI1 18 rfl) rfl rfl ?_
  refine ccst 664 (1) (lI1 19 rfl) rfl (by decide) (fun z663 h663 => ?_)
  refine cadd 665 _ (lI1 20 rfl) rfl rfl (by omega) (by omega) (fun z664 h664 => ?_)
  refine cscl 666 (lI1 21 rfl) rfl (by omega) (by omega) (fun w665 => ?_)
  refine ccall (kd := 0) (t := 0) [.ref 66, .int _] [] hI654.1.1 (lI1 22 rfl) (Or.inl ⟨_, rfl, rfl, by decide, by decide⟩) rfl rfl rfl ⟨rfl, rfl, rfl⟩ rfl (recv66 hI654.1.1 _) rfl (qIJ (bQ6_s bf_16 (List.mem_of_getElem? (i := 117) rfl)) rfl hI654 ⟨a66r, ai _, trivial⟩ rfl rfl rfl (fun r666 hp666 hI666 => Or.inl ⟨_, rfl, ?_⟩) (fun E _ _ hE => by cases hE))
  refine cistU 671 (lI1 23 rfl) rfl rfl rfl ?_
  refine cgoto (lI1 24 rfl) ?_
  exact cmono (hN hp666 hI666) (fun y hp9 m9 s9 h9 => ⟨h9.1, by have := h9.2.1; omega, by have := h9.2.2; omega⟩)
theorem cs18J {sc : List Int32} {b : Nat} {i : Int32} {hp : amH} (i0 : 0 ≤ i.toInt) (i1 : i.toInt + 6 ≤ (sc.length : Int)) (hL : sc.length ≤ 100000) (hI : lawJ hp) (hN : ∀ hp1, lawJ hp1 → lV sc b 2284 i hp1) : lV sc (b + 1) 912 i hp := by
  refine cald 913 (lI1 188 rfl) rfl rfl ?_
  refine ccall (kd := 0) (t := 0) [.ref 0] [] hI.1.1 (lI1 189 rfl) (Or.inl ⟨_, rfl, rfl, by decide, by decide⟩) rfl rfl rfl ⟨rfl, rfl, rfl⟩ rfl (recv0 hI.1.1 _) rfl (qIJ (bL8_s be_69 (List.mem_of_getElem? (i := 127) rfl)) rfl hI ⟨a0r, trivial⟩ rfl rfl rfl (fun r913 hp913 hI913 => Or.inl ⟨_, rfl, ?_⟩) (fun E _ _ hE => by cases hE))
  refine cpop 917 (lI1 190 rfl) rfl rfl ?_
  refine cald 918 (lI1 191 rfl) rfl rfl ?_
  refine ccall (kd := 0) (t := 0) [.ref 66] [] hI913.1.1 (lI1 192 rfl) (Or.inl ⟨_, rfl, rfl, by decide, by decide⟩) rfl rfl rfl ⟨rfl, rfl, rfl⟩ rfl (recv66 hI913.1.1 _) rfl (qIJ (bQ6_s bf_25 (List.mem_of_getElem? (i := 108) rfl)) rfl hI913 ⟨a66r, trivial⟩ rfl rfl rfl (fun r918 hp918 hI918 => Or.inl ⟨_, rfl, ?_⟩) (fun E _ _ hE => by cases hE))
  refine cpop 922 (lI1 193 rfl) rfl rfl ?_
  refine cgoto (lI1 194 rfl) ?_
  exact cmono (hN hp918 hI918) (fun y hp9 m9 s9 h9 => ⟨h9.1, by have := h9.2.1; omega, by have := h9.2.2; omega⟩)
theorem cs19J {sc : List Int32} {b : Nat} {i : Int32} {hp : amH} (i0 : 0 ≤ i.toInt) (i1 : i.toInt + 6 ≤ (sc.length : Int)) (hL : sc.length ≤ 100000) (hI : lawJ hp) (hN : ∀ hp1, lawJ hp1 → lV sc b 2284 i hp1) : lV sc (b + 1) 925 i hp := by
  refine cald 926 (lI1 195 rfl) rfl rfl ?_
  refine cald 927 (lI1 196 rfl) rfl rfl ?_
  refine cild2 929 (lI1 197 rfl) rfl rfl ?_
  refine ccst 930 (1) (lI1 198 rfl) rfl (by decide) (fun z929 h929 => ?_)
  refine cadd 931 _ (lI1 199 rfl) rfl rfl (by omega) (by omega) (fun z930 h930 => ?_)
  refine cscl 932 (lI1 200 rfl) rfl (by omega) (by omega) (fun w931 => ?_)
  refine cald 933 (lI1 201 rfl) rfl rfl ?_
  refine cild2 935 (lI1 202 rfl) rfl rfl ?_
  refine ccst 936 (2) (lI1 203 rfl) rfl (by decide) (fun z935 h935 => ?_)
  refine cadd 937 _ (lI1 204 rfl) rfl rfl (by omega) (by omega) (fun z936 h936 => ?_)
  refine cscl 938 (lI1 205 rfl) rfl (by omega) (by omega) (fun w937 => ?_)
  refine cald 939 (lI1 206 rfl) rfl rfl ?_
  refine ccall (kd := 1) (t := 0) [.ref 0, .int _, .int _, .ref 83] [] hI.1.1 (lI1 207 rfl) (Or.inr ⟨_, rfl, rfl, by decide⟩) rfl rfl rfl ⟨rfl, rfl, rfl⟩ rfl rfl rfl (h358J (d := 579) hI (fun r939 hp939 mc ms hI939 hmc hms => Or.inl ⟨_, rfl, ?_⟩))
  refine cistU 944 (lI1 208 rfl) rfl rfl rfl ?_
  refine cald 945 (lI1 209 rfl) rfl rfl ?_
  refine cald 946 (lI1 210 rfl) rfl rfl ?_
  refine cild2 948 (lI1 211 rfl) rfl rfl ?_
  refine ccst 949 (1) (lI1 212 rfl) rfl (by decide) (fun z948 h948 => ?_)
  refine cadd 950 _ (lI1 213 rfl) rfl rfl (by omega) (by omega) (fun z949 h949 => ?_)
  refine cscl 951 (lI1 214 rfl) rfl (by omega) (by omega) (fun w950 => ?_)
  refine cald 952 (lI1 215 rfl) rfl rfl ?_
  refine cild2 954 (lI1 216 rfl) rfl rfl ?_
  refine ccst 955 (2) (lI1 217 rfl) rfl (by decide) (fun z954 h954 => ?_)
  refine cadd 956 _ (lI1 218 rfl) rfl rfl (by omega) (by omega) (fun z955 h955 => ?_)
  refine cscl 957 (lI1 219 rfl) rfl (by omega) (by omega) (fun w956 => ?_)
  refine ccall (kd := 0) (t := 0) [.ref 66, .int _, .int _] [] hI939.1.1 (lI1 220 rfl) (Or.inl ⟨_, rfl, rfl, by decide, by decide⟩) rfl rfl rfl ⟨rfl, rfl, rfl⟩ rfl (recv66 hI939.1.1 _) rfl (qIJ (bQ6_s bf_29 (List.mem_of_getElem? (i := 104) rfl)) rfl hI939 ⟨a66r, ai _, ai _, trivial⟩ rfl rfl rfl (fun r957 hp957 hI957 => Or.inl ⟨_, rfl, ?_⟩) (fun E _ _ hE => by cases hE))
  refine cistU 962 (lI1 221 rfl) rfl rfl rfl ?_
  refine cgoto (lI1 222 rfl) ?_
  exact cmono (hN hp957 hI957) (fun y hp9 m9 s9 h9 => ⟨h9.1, by have := h9.2.1; omega, by have := h9.2.2; omega⟩)
theorem cs20J {sc : List Int32} {b : Nat} {i : Int32} {hp : amH} (i0 : 0 ≤ i.toInt) (i1 : i.toInt + 6 ≤ (sc.length : Int)) (hL : sc.length ≤ 100000) (hI : lawJ hp) (hN : ∀ hp1, lawJ hp1 → lV sc b 2284 i hp1) : lV sc (b + 1) 965 i hp := by
  refine cald 966 (lI1 223 rfl) rfl rfl ?_
  refine cald 967 (lI1 224 rfl) rfl rfl ?_
  refine cild2 969 (lI1 225 rfl) rfl rfl ?_
  refine ccst 970 (1) (lI1 226 rfl) rfl (by decide) (fun z969 h969 => ?_)
  refine cadd 971 _ (lI1 227 rfl) rfl rfl (by omega) (by omega) (fun z970 h970 => ?_)
  refine cscl 972 (lI1 228 rfl) rfl (by omega) (by omega) (fun w971 => ?_)
  refine cald 973 (lI1 229 rfl) rfl rfl ?_
  refine cild2 975 (lI1 230 rfl) rfl rfl ?_
  refine ccst 976 (2) (lI1 231 rfl) rfl (by decide) (fun z975 h975 => ?_)
  refine cadd 977 _ (lI1 232 rfl) rfl rfl (by omega) (by omega) (fun z976 h976 => ?_)
  refine cscl 978 (lI1 233 rfl) rfl (by omega) (by omega) (fun w977 => ?_)
  refine cald 979 (lI1 234 rfl) rfl rfl ?_
  refine ccall (kd := 1) (t := 0) [.ref 0, .int _, .int _, .ref 83] [] hI.1.1 (lI1 235 rfl) (Or.inr ⟨_, rfl, rfl, by decide⟩) rfl rfl rfl ⟨rfl, rfl, rfl⟩ rfl rfl rfl (h359J (d := 579) hI (fun r979 hp979 mc ms hI979 hmc hms => Or.inl ⟨_, rfl, ?_⟩))
  refine cistU 984 (lI1 236 rfl) rfl rfl rfl ?_
  refine cald 985 (lI1 237 rfl) rfl rfl ?_
  refine cald 986 (lI1 238 rfl) rfl rfl ?_
  refine cild2 988 (lI1 239 rfl) rfl rfl ?_
  refine ccst 989 (1) (lI1 240 rfl) rfl (by decide) (fun z988 h988 => ?_)
  refine cadd 990 _ (lI1 241 rfl) rfl rfl (by omega) (by omega) (fun z989 h989 => ?_)
  refine cscl 991 (lI1 242 rfl) rfl (by omega) (by omega) (fun w990 => ?_)
  refine cald 992 (lI1 243 rfl) rfl rfl ?_
  refine cild2 994 (lI1 244 rfl) rfl rfl ?_
  refine ccst 995 (2) (lI1 245 rfl) rfl (by decide) (fun z994 h994 => ?_)
  refine cadd 996 _ (lI1 246 rfl) rfl rfl (by omega) (by omega) (fun z995 h995 => ?_)
  refine cscl 997 (lI1 247 rfl) rfl (by omega) (by omega) (fun w996 => ?_)
  refine ccall (kd := 0) (t := 0) [.ref 66, .int _, .int _] [] hI979.1.1 (lI1 248 rfl) (Or.inl ⟨_, rfl, rfl, by decide, by decide⟩) rfl rfl rfl ⟨rfl, rfl, rfl⟩ rfl (recv66 hI979.1.1 _) rfl (qIJ (bQ6_s bf_31 (List.mem_of_getElem? (i := 102) rfl)) rfl hI979 ⟨a66r, ai _, ai _, trivial⟩ rfl rfl rfl (fun r997 hp997 hI997 => Or.inl ⟨_, rfl, ?_⟩) (fun E _ _ hE => by cases hE))
  refine cistU 1002 (lI1 249 rfl) rfl rfl rfl ?_
  refine cgoto (lI2 0 rfl) ?_
  exact cmono (hN hp997 hI997) (fun y hp9 m9 s9 h9 => ⟨h9.1, by have := h9.2.1; omega, by have := h9.2.2; omega⟩)
theorem cs21J {sc : List Int32} {b : Nat} {i : Int32} {hp : amH} (i0 : 0 ≤ i.toInt) (i1 : i.toInt + 6 ≤ (sc.length : Int)) (hL : sc.length ≤ 100000) (hI : lawJ hp) (hN : ∀ hp1, lawJ hp1 → lV sc b 2284 i hp1) : lV sc (b + 1) 1005 i hp := by
  refine cald 1006 (lI2 1 rfl) rfl rfl ?_
  refine cald 1007 (lI2 2 rfl) rfl rfl ?_
  refine cild2 1009 (lI2 3 rfl) rfl rfl ?_
  refine ccst 1010 (1) (lI2 4 rfl) rfl (by decide) (fun z1009 h1009 => ?_)
  refine cadd 1011 _ (lI2 5 rfl) rfl rfl (by omega) (by omega) (fun z1010 h1010 => ?_)
  refine cscl 1012 (lI2 6 rfl) rfl (by omega) (by omega) (fun w1011 => ?_)
  refine cald 1013 (lI2 7 rfl) rfl rfl ?_
  refine ccall (kd := 1) (t := 0) [.ref 0, .int _, .ref 83] [] hI.1.1 (lI2 8 rfl) (Or.inr ⟨_, rfl, rfl, by decide⟩) rfl rfl rfl ⟨rfl, rfl, rfl⟩ rfl rfl rfl (h360J (d := 579) hI (fun r1013 hp1013 mc ms hI1013 hmc hms => Or.inl ⟨_, rfl, ?_⟩))
  refine cistU 1018 (lI2 9 rfl) rfl rfl rfl ?_
  refine cald 1019 (lI2 10 rfl) rfl rfl ?_
  refine cald 1020 (lI2 11 rfl) rfl rfl ?_
  refine cild2 1022 (lI2 12 rfl) rfl rfl ?_
  refine ccst 1023 (1) (lI2 13 rfl) rfl (by decide) (fun z1022 h1022 => ?_)
  refine cadd 1024 _ (lI2 14 rfl) rfl rfl (by omega) (by omega) (fun z1023 h1023 => ?_)
  refine cscl 1025 (lI2 15 rfl) rfl (by omega) (by omega) (fun w1024 => ?_)
  refine ccall (kd := 0) (t := 0) [.ref 66, .int _] [] hI1013.1.1 (lI2 16 rfl) (Or.inl ⟨_, rfl, rfl, by decide, by decide⟩) rfl rfl rfl ⟨rfl, rfl, rfl⟩ rfl (recv66 hI1013.1.1 _) rfl (qIJ (bQ6_s bf_32 (List.mem_of_getElem? (i := 101) rfl)) rfl hI1013 ⟨a66r, ai _, trivial⟩ rfl rfl rfl (fun r1025 hp1025 hI1025 => Or.inl ⟨_, rfl, ?_⟩) (fun E _ _ hE => by cases hE))
  refine cistU 1030 (lI2 17 rfl) rfl rfl rfl ?_
  refine cgoto (lI2 18 rfl) ?_
  exact cmono (hN hp1025 hI1025) (fun y hp9 m9 s9 h9 => ⟨h9.1, by have := h9.2.1; omega, by have := h9.2.2; omega⟩)
theorem cs22J {sc : List Int32} {b : Nat} {i : Int32} {hp : amH} (i0 : 0 ≤ i.toInt) (i1 : i.toInt + 6 ≤ (sc.length : Int)) (hL : sc.length ≤ 100000) (hI : lawJ hp) (hN : ∀ hp1, lawJ hp1 → lV sc b 2284 i hp1) : lV sc (b + 1) 1033 i hp := by
  refine cald 1034 (lI2 19 rfl) rfl rfl ?_
  refine cald 1035 (lI2 20 rfl) rfl rfl ?_
  refine cild2 1037 (lI2 21 rfl) rfl rfl ?_
  refine ccst 1038 (1) (lI2 22 rfl) rfl (by decide) (fun z1037 h1037 => ?_)
  refine cadd 1039 _ (lI2 23 rfl) rfl rfl (by omega) (by omega) (fun z1038 h1038 => ?_)
  refine cscl 1040 (lI2 24 rfl) rfl (by omega) (by omega) (fun w1039 => ?_)
  refine cald 1041 (lI2 25 rfl) rfl rfl ?_
  refine ccall (kd := 1) (t := 0) [.ref 0, .int _, .ref 83] [] hI.1.1 (lI2 26 rfl) (Or.inr ⟨_, rfl, rfl, by decide⟩) rfl rfl rfl ⟨rfl, rfl, rfl⟩ rfl rfl rfl (h361J (d := 579) hI (fun r1041 hp1041 mc ms hI1041 hmc hms => Or.inl ⟨_, rfl, ?_⟩))
  refine cistU 1046 (lI2 27 rfl) rfl rfl rfl ?_
  refine cald 1047 (lI2 28 rfl) rfl rfl ?_
  refine cald 1048 (lI2 29 rfl) rfl rfl ?_
  refine cild2 1050 (lI2 30 rfl) rfl rfl ?_
  refine ccst 1051 (1) (lI2 31 rfl) rfl (by decide) (fun z1050 h1050 => ?_)
  refine cadd 1052 _ (lI2 32 rfl) rfl rfl (by omega) (by omega) (fun z1051 h1051 => ?_)
  refine cscl 1053 (lI2 33 rfl) rfl (by omega) (by omega) (fun w1052 => ?_)
  refine ccall (kd := 0) (t := 0) [.ref 66, .int _] [] hI1041.1.1 (lI2 34 rfl) (Or.inl ⟨_, rfl, rfl, by decide, by decide⟩) rfl rfl rfl ⟨rfl, rfl, rfl⟩ rfl (recv66 hI1041.1.1 _) rfl (qIJ (bQ6_s bf_33 (List.mem_of_getElem? (i := 100) rfl)) rfl hI1041 ⟨a66r, ai _, trivial⟩ rfl rfl rfl (fun r1053 hp1053 hI1053 => Or.inl ⟨_, rfl, ?_⟩) (fun E _ _ hE => by cases hE))
  refine cistU 1058 (lI2 35 rfl) rfl rfl rfl ?_
  refine cgoto (lI2 36 rfl) ?_
  exact cmono (hN hp1053 hI1053) (fun y hp9 m9 s9 h9 => ⟨h9.1, by have := h9.2.1; omega, by have := h9.2.2; omega⟩)
theorem cs27J {sc : List Int32} {b : Nat} {i : Int32} {hp : amH} (i0 : 0 ≤ i.toInt) (i1 : i.toInt + 6 ≤ (sc.length : Int)) (hL : sc.length ≤ 100000) (hI : lawJ hp) (hN : ∀ hp1, lawJ hp1 → lV sc b 2284 i hp1) : lV sc (b + 1) 1186 i hp := by
  refine cald 1187 (lI2 116 rfl) rfl rfl ?_
  refine cald 1188 (lI2 117 rfl) rfl rfl ?_
  refine cild2 1190 (lI2 118 rfl) rfl rfl ?_
  refine ccst 1191 (1) (lI2 119 rfl) rfl (by decide) (fun z1190 h1190 => ?_)
  refine cadd 1192 _ (lI2 120 rfl) rfl rfl (by omega) (by omega) (fun z1191 h1191 => ?_)
  refine cscl 1193 (lI2 121 rfl) rfl (by omega) (by omega) (fun w1192 => ?_)
  refine cald 1194 (lI2 122 rfl) rfl rfl ?_
  refine cild2 1196 (lI2 123 rfl) rfl rfl ?_
  refine ccst 1197 (2) (lI2 124 rfl) rfl (by decide) (fun z1196 h1196 => ?_)
  refine cadd 1198 _ (lI2 125 rfl) rfl rfl (by omega) (by omega) (fun z1197 h1197 => ?_)
  refine cscl 1199 (lI2 126 rfl) rfl (by omega) (by omega) (fun w1198 => ?_)
  refine cald 1200 (lI2 127 rfl) rfl rfl ?_
  refine ccall (kd := 1) (t := 0) [.ref 0, .int _, .int _, .ref 83] [] hI.1.1 (lI2 128 rfl) (Or.inr ⟨_, rfl, rfl, by decide⟩) rfl rfl rfl ⟨rfl, rfl, rfl⟩ rfl rfl rfl (h365J (d := 579) hI (fun r1200 hp1200 mc ms hI1200 hmc hms => Or.inl ⟨_, rfl, ?_⟩))
  refine cistU 1205 (lI2 129 rfl) rfl rfl rfl ?_
  refine cald 1206 (lI2 130 rfl) rfl rfl ?_
  refine cald 1207 (lI2 131 rfl) rfl rfl ?_
  refine cild2 1209 (lI2 132 rfl) rfl rfl ?_
  refine ccst 1210 (1) (lI2 133 rfl) rfl (by decide) (fun z1209 h1209 => ?_)
  refine cadd 1211 _ (lI2 134 rfl) rfl rfl (by omega) (by omega) (fun z1210 h1210 => ?_)
  refine cscl 1212 (lI2 135 rfl) rfl (by omega) (by omega) (fun w1211 => ?_)
  refine cald 1213 (lI2 136 rfl) rfl rfl ?_
  refine cild2 1215 (lI2 137 rfl) rfl rfl ?_
  refine ccst 1216 (2) (lI2 138 rfl) rfl (by decide) (fun z1215 h1215 => ?_)
  refine cadd 1217 _ (lI2 139 rfl) rfl rfl (by omega) (by omega) (fun z1216 h1216 => ?_)
  refine cscl 1218 (lI2 140 rfl) rfl (by omega) (by omega) (fun w1217 => ?_)
  refine ccall (kd := 0) (t := 0) [.ref 66, .int _, .int _] [] hI1200.1.1 (lI2 141 rfl) (Or.inl ⟨_, rfl, rfl, by decide, by decide⟩) rfl rfl rfl ⟨rfl, rfl, rfl⟩ rfl (recv66 hI1200.1.1 _) rfl (qIJ (bQ6_s bf_42 (List.mem_of_getElem? (i := 91) rfl)) rfl hI1200 ⟨a66r, ai _, ai _, trivial⟩ rfl rfl rfl (fun r1218 hp1218 hI1218 => Or.inl ⟨_, rfl, ?_⟩) (fun E _ _ hE => by cases hE))
  refine cistU 1223 (lI2 142 rfl) rfl rfl rfl ?_
  refine cgoto (lI2 143 rfl) ?_
  exact cmono (hN hp1218 hI1218) (fun y hp9 m9 s9 h9 => ⟨h9.1, by have := h9.2.1; omega, by have := h9.2.2; omega⟩)
theorem cs28J {sc : List Int32} {b : Nat} {i : Int32} {hp : amH} (i0 : 0 ≤ i.toInt) (i1 : i.toInt + 6 ≤ (sc.length : Int)) (hL : sc.length ≤ 100000) (hI : lawJ hp) (hN : ∀ hp1, lawJ hp1 → lV sc b 2284 i hp1) : lV sc (b + 1) 1226 i hp := by
  refine cald 1227 (lI2 144 rfl) rfl rfl ?_
  refine cald 1228 (lI2 145 rfl) rfl rfl ?_
  refine cild2 1230 (lI2 146 rfl) rfl rfl ?_
  refine ccst 1231 (1) (lI2 147 rfl) rfl (by decide) (fun z1230 h1230 => ?_)
  refine cadd 1232 _ (lI2 148 rfl) rfl rfl (by omega) (by omega) (fun z1231 h1231 => ?_)
  refine cscl 1233 (lI2 149 rfl) rfl (by omega) (by omega) (fun w1232 => ?_)
  refine cald 1234 (lI2 150 rfl) rfl rfl ?_
  refine cild2 1236 (lI2 151 rfl) rfl rfl ?_
  refine ccst 1237 (2) (lI2 152 rfl) rfl (by decide) (fun z1236 h1236 => ?_)
  refine cadd 1238 _ (lI2 153 rfl) rfl rfl (by omega) (by omega) (fun z1237 h1237 => ?_)
  refine cscl 1239 (lI2 154 rfl) rfl (by omega) (by omega) (fun w1238 => ?_)
  refine cald 1240 (lI2 155 rfl) rfl rfl ?_
  refine cild2 1242 (lI2 156 rfl) rfl rfl ?_
  refine ccst 1243 (3) (lI2 157 rfl) rfl (by decide) (fun z1242 h1242 => ?_)
  refine cadd 1244 _ (lI2 158 rfl) rfl rfl (by omega) (by omega) (fun z1243 h1243 => ?_)
  refine cscl 1245 (lI2 159 rfl) rfl (by omega) (by omega) (fun w1244 => ?_)
  refine cald 1246 (lI2 160 rfl) rfl rfl ?_
  refine ccall (kd := 1) (t := 0) [.ref 0, .int _, .int _, .int _, .ref 83] [] hI.1.1 (lI2 161 rfl) (Or.inr ⟨_, rfl, rfl, by decide⟩) rfl rfl rfl ⟨rfl, rfl, rfl⟩ rfl rfl rfl (h366J (d := 579) hI (fun r1246 hp1246 mc ms hI1246 hmc hms => Or.inl ⟨_, rfl, ?_⟩))
  refine cistU 1251 (lI2 162 rfl) rfl rfl rfl ?_
  refine cald 1252 (lI2 163 rfl) rfl rfl ?_
  refine cald 1253 (lI2 164 rfl) rfl rfl ?_
  refine cild2 1255 (lI2 165 rfl) rfl rfl ?_
  refine ccst 1256 (1) (lI2 166 rfl) rfl (by decide) (fun z1255 h1255 => ?_)
  refine cadd 1257 _ (lI2 167 rfl) rfl rfl (by omega) (by omega) (fun z1256 h1256 => ?_)
  refine cscl 1258 (lI2 168 rfl) rfl (by omega) (by omega) (fun w1257 => ?_)
  refine cald 1259 (lI2 169 rfl) rfl rfl ?_
  refine cild2 1261 (lI2 170 rfl) rfl rfl ?_
  refine ccst 1262 (2) (lI2 171 rfl) rfl (by decide) (fun z1261 h1261 => ?_)
  refine cadd 1263 _ (lI2 172 rfl) rfl rfl (by omega) (by omega) (fun z1262 h1262 => ?_)
  refine cscl 1264 (lI2 173 rfl) rfl (by omega) (by omega) (fun w1263 => ?_)
  refine cald 1265 (lI2 174 rfl) rfl rfl ?_
  refine cild2 1267 (lI2 175 rfl) rfl rfl ?_
  refine ccst 1268 (3) (lI2 176 rfl) rfl (by decide) (fun z1267 h1267 => ?_)
  refine cadd 1269 _ (lI2 177 rfl) rfl rfl (by omega) (by omega) (fun z1268 h1268 => ?_)
  refine cscl 1270 (lI2 178 rfl) rfl (by omega) (by omega) (fun w1269 => ?_)
  refine ccall (kd := 0) (t := 0) [.ref 66, .int _, .int _, .int _] [] hI1246.1.1 (lI2 179 rfl) (Or.inl ⟨_, rfl, rfl, by decide, by decide⟩) rfl rfl rfl ⟨rfl, rfl, rfl⟩ rfl (recv66 hI1246.1.1 _) rfl (qIJ (bQ6_s bf_44 (List.mem_of_getElem? (i := 89) rfl)) rfl hI1246 ⟨a66r, ai _, ai _, ai _, trivial⟩ rfl rfl rfl (fun r1270 hp1270 hI1270 => Or.inl ⟨_, rfl, ?_⟩) (fun E _ _ hE => by cases hE))
  refine cistU 1275 (lI2 180 rfl) rfl rfl rfl ?_
  refine cgoto (lI2 181 rfl) ?_
  exact cmono (hN hp1270 hI1270) (fun y hp9 m9 s9 h9 => ⟨h9.1, by have := h9.2.1; omega, by have := h9.2.2; omega⟩)
theorem cs29J {sc : List Int32} {b : Nat} {i : Int32} {hp : amH} (i0 : 0 ≤ i.toInt) (i1 : i.toInt + 6 ≤ (sc.length : Int)) (hL : sc.length ≤ 100000) (hI : lawJ hp) (hN : ∀ hp1, lawJ hp1 → lV sc b 2284 i hp1) : lV sc (b + 1) 1278 i hp := by
  refine cald 1279 (lI2 182 rfl) rfl rfl ?_
  refine cald 1280 (lI2 183 rfl) rfl rfl ?_
  refine cild2 1282 (lI2 184 rfl) rfl rfl ?_
  refine ccst 1283 (1) (lI2 185 rfl) rfl (by decide) (fun z1282 h1282 => ?_)
  refine cadd 1284 _ (lI2 186 rfl) rfl rfl (by omega) (by omega) (fun z1283 h1283 => ?_)
  refine cscl 1285 (lI2 187 rfl) rfl (by omega) (by omega) (fun w1284 => ?_)
  refine cald 1286 (lI2 188 rfl) rfl rfl ?_
  refine cild2 1288 (lI2 189 rfl) rfl rfl ?_
  refine ccst 1289 (2) (lI2 190 rfl) rfl (by decide) (fun z1288 h1288 => ?_)
  refine cadd 1290 _ (lI2 191 rfl) rfl rfl (by omega) (by omega) (fun z1289 h1289 => ?_)
  refine cscl 1291 (lI2 192 rfl) rfl (by omega) (by omega) (fun w1290 => ?_)
  refine cald 1292 (lI2 193 rfl) rfl rfl ?_
  refine cild2 1294 (lI2 194 rfl) rfl rfl ?_
  refine ccst 1295 (3) (lI2 195 rfl) rfl (by decide) (fun z1294 h1294 => ?_)
  refine cadd 1296 _ (lI2 196 rfl) rfl rfl (by omega) (by omega) (fun z1295 h1295 => ?_)
  refine cscl 1297 (lI2 197 rfl) rfl (by omega) (by omega) (fun w1296 => ?_)
  refine cald 1298 (lI2 198 rfl) rfl rfl ?_
  refine cild2 1300 (lI2 199 rfl) rfl rfl ?_
  refine ccst 1301 (4) (lI2 200 rfl) rfl (by decide) (fun z1300 h1300 => ?_)
  refine cadd 1302 _ (lI2 201 rfl) rfl rfl (by omega) (by omega) (fun z1301 h1301 => ?_)
  refine cscl 1303 (lI2 202 rfl) rfl (by omega) (by omega) (fun w1302 => ?_)
  refine cald 1304 (lI2 203 rfl) rfl rfl ?_
  refine ccall (kd := 1) (t := 0) [.ref 0, .int _, .int _, .int _, .int _, .ref 83] [] hI.1.1 (lI2 204 rfl) (Or.inr ⟨_, rfl, rfl, by decide⟩) rfl rfl rfl ⟨rfl, rfl, rfl⟩ rfl rfl rfl (h367J (d := 579) hI (fun r1304 hp1304 mc ms hI1304 hmc hms => Or.inl ⟨_, rfl, ?_⟩))
  refine cistU 1309 (lI2 205 rfl) rfl rfl rfl ?_
  refine cald 1310 (lI2 206 rfl) rfl rfl ?_
  refine cald 1311 (lI2 207 rfl) rfl rfl ?_
  refine cild2 1313 (lI2 208 rfl) rfl rfl ?_
  refine ccst 1314 (1) (lI2 209 rfl) rfl (by decide) (fun z1313 h1313 => ?_)
  refine cadd 1315 _ (lI2 210 rfl) rfl rfl (by omega) (by omega) (fun z1314 h1314 => ?_)
  refine cscl 1316 (lI2 211 rfl) rfl (by omega) (by omega) (fun w1315 => ?_)
  refine cald 1317 (lI2 212 rfl) rfl rfl ?_
  refine cild2 1319 (lI2 213 rfl) rfl rfl ?_
  refine ccst 1320 (2) (lI2 214 rfl) rfl (by decide) (fun z1319 h1319 => ?_)
  refine cadd 1321 _ (lI2 215 rfl) rfl rfl (by omega) (by omega) (fun z1320 h1320 => ?_)
  refine cscl 1322 (lI2 216 rfl) rfl (by omega) (by omega) (fun w1321 => ?_)
  refine cald 1323 (lI2 217 rfl) rfl rfl ?_
  refine cild2 1325 (lI2 218 rfl) rfl rfl ?_
  refine ccst 1326 (3) (lI2 219 rfl) rfl (by decide) (fun z1325 h1325 => ?_)
  refine cadd 1327 _ (lI2 220 rfl) rfl rfl (by omega) (by omega) (fun z1326 h1326 => ?_)
  refine cscl 1328 (lI2 221 rfl) rfl (by omega) (by omega) (fun w1327 => ?_)
  refine cald 1329 (lI2 222 rfl) rfl rfl ?_
  refine cild2 1331 (lI2 223 rfl) rfl rfl ?_
  refine ccst 1332 (4) (lI2 224 rfl) rfl (by decide) (fun z1331 h1331 => ?_)
  refine cadd 1333 _ (lI2 225 rfl) rfl rfl (by omega) (by omega) (fun z1332 h1332 => ?_)
  refine cscl 1334 (lI2 226 rfl) rfl (by omega) (by omega) (fun w1333 => ?_)
  refine ccall (kd := 0) (t := 0) [.ref 66, .int _, .int _, .int _, .int _] [] hI1304.1.1 (lI2 227 rfl) (Or.inl ⟨_, rfl, rfl, by decide, by decide⟩) rfl rfl rfl ⟨rfl, rfl, rfl⟩ rfl (recv66 hI1304.1.1 _) rfl (qIJ (bQ6_s bf_45 (List.mem_of_getElem? (i := 88) rfl)) rfl hI1304 ⟨a66r, ai _, ai _, ai _, ai _, trivial⟩ rfl rfl rfl (fun r1334 hp1334 hI1334 => Or.inl ⟨_, rfl, ?_⟩) (fun E _ _ hE => by cases hE))
  refine cistU 1339 (lI2 228 rfl) rfl rfl rfl ?_
  refine cgoto (lI2 229 rfl) ?_
  exact cmono (hN hp1334 hI1334) (fun y hp9 m9 s9 h9 => ⟨h9.1, by have := h9.2.1; omega, by have := h9.2.2; omega⟩)
theorem cs32J {sc : List Int32} {b : Nat} {i : Int32} {hp : amH} (i0 : 0 ≤ i.toInt) (i1 : i.toInt + 6 ≤ (sc.length : Int)) (hL : sc.length ≤ 100000) (hI : lawJ hp) (hN : ∀ hp1, lawJ hp1 → lV sc b 2284 i hp1) : lV sc (b + 1) 1446 i hp := by
  refine cald 1447 (lI3 56 rfl) rfl rfl ?_
  refine cald 1448 (lI3 57 rfl) rfl rfl ?_
  refine cild2 1450 (lI3 58 rfl) rfl rfl ?_
  refine ccst 1451 (1) (lI3 59 rfl) rfl (by decide) (fun z1450 h1450 => ?_)
  refine cadd 1452 _ (lI3 60 rfl) rfl rfl (by omega) (by omega) (fun z1451 h1451 => ?_)
  refine cscl 1453 (lI3 61 rfl) rfl (by omega) (by omega) (fun w1452 => ?_)
  refine ccall (kd := 0) (t := 0) [.ref 0, .int _] [] hI.1.1 (lI3 62 rfl) (Or.inl ⟨_, rfl, rfl, by decide, by decide⟩) rfl rfl rfl ⟨rfl, rfl, rfl⟩ rfl (recv0 hI.1.1 _) rfl (qIJ (bL8_s be_104 (List.mem_of_getElem? (i := 87) rfl)) rfl hI ⟨a0r, ai _, trivial⟩ rfl rfl rfl (fun r1453 hp1453 hI1453 => Or.inl ⟨_, rfl, ?_⟩) (fun E _ _ hE => by cases hE))
  refine cpop 1457 (lI3 63 rfl) rfl rfl ?_
  refine cald 1458 (lI3 64 rfl) rfl rfl ?_
  refine cald 1459 (lI3 65 rfl) rfl rfl ?_
  refine cild2 1461 (lI3 66 rfl) rfl rfl ?_
  refine ccst 1462 (1) (lI3 67 rfl) rfl (by decide) (fun z1461 h1461 => ?_)
  refine cadd 1463 _ (lI3 68 rfl) rfl rfl (by omega) (by omega) (fun z1462 h1462 => ?_)
  refine cscl 1464 (lI3 69 rfl) rfl (by omega) (by omega) (fun w1463 => ?_)
  refine ccall (kd := 0) (t := 0) [.ref 66, .int _] [] hI1453.1.1 (lI3 70 rfl) (Or.inl ⟨_, rfl, rfl, by decide, by decide⟩) rfl rfl rfl ⟨rfl, rfl, rfl⟩ rfl (recv66 hI1453.1.1 _) rfl (qIJ (bQ6_s bf_46 (List.mem_of_getElem? (i := 87) rfl)) rfl hI1453 ⟨a66r, ai _, trivial⟩ rfl rfl rfl (fun r1464 hp1464 hI1464 => Or.inl ⟨_, rfl, ?_⟩) (fun E _ _ hE => by cases hE))
  refine cpop 1468 (lI3 71 rfl) rfl rfl ?_
  refine cgoto (lI3 72 rfl) ?_
  exact cmono (hN hp1464 hI1464) (fun y hp9 m9 s9 h9 => ⟨h9.1, by have := h9.2.1; omega, by have := h9.2.2; omega⟩)
theorem cs33J {sc : List Int32} {b : Nat} {i : Int32} {hp : amH} (i0 : 0 ≤ i.toInt) (i1 : i.toInt + 6 ≤ (sc.length : Int)) (hL : sc.length ≤ 100000) (hI : lawJ hp) (hN : ∀ hp1, lawJ hp1 → lV sc b 2284 i hp1) : lV sc (b + 1) 1471 i hp := by
  refine cald 1472 (lI3 73 rfl) rfl rfl ?_
  refine cald 1473 (lI3 74 rfl) rfl rfl ?_
  refine cild2 1475 (lI3 75 rfl) rfl rfl ?_
  refine ccst 1476 (1) (lI3 76 rfl) rfl (by decide) (fun z1475 h1475 => ?_)
  refine cadd 1477 _ (lI3 77 rfl) rfl rfl (by omega) (by omega) (fun z1476 h1476 => ?_)
  refine cscl 1478 (lI3 78 rfl) rfl (by omega) (by omega) (fun w1477 => ?_)
  refine ccall (kd := 0) (t := 0) [.ref 0, .int _] [] hI.1.1 (lI3 79 rfl) (Or.inl ⟨_, rfl, rfl, by decide, by decide⟩) rfl rfl rfl ⟨rfl, rfl, rfl⟩ rfl (recv0 hI.1.1 _) rfl (qIJ (bL8_s be_108 (List.mem_of_getElem? (i := 83) rfl)) rfl hI ⟨a0r, ai _, trivial⟩ rfl rfl rfl (fun r1478 hp1478 hI1478 => Or.inl ⟨_, rfl, ?_⟩) (fun E _ _ hE => by cases hE))
  refine cpop 1482 (lI3 80 rfl) rfl rfl ?_
  refine cald 1483 (lI3 81 rfl) rfl rfl ?_
  refine cald 1484 (lI3 82 rfl) rfl rfl ?_
  refine cild2 1486 (lI3 83 rfl) rfl rfl ?_
  refine ccst 1487 (1) (lI3 84 rfl) rfl (by decide) (fun z1486 h1486 => ?_)
  refine cadd 1488 _ (lI3 85 rfl) rfl rfl (by omega) (by omega) (fun z1487 h1487 => ?_)
  refine cscl 1489 (lI3 86 rfl) rfl (by omega) (by omega) (fun w1488 => ?_)
  refine ccall (kd := 0) (t := 0) [.ref 66, .int _] [] hI1478.1.1 (lI3 87 rfl) (Or.inl ⟨_, rfl, rfl, by decide, by decide⟩) rfl rfl rfl ⟨rfl, rfl, rfl⟩ rfl (recv66 hI1478.1.1 _) rfl (qIJ (bQ6_s bf_52 (List.mem_of_getElem? (i := 81) rfl)) rfl hI1478 ⟨a66r, ai _, trivial⟩ rfl rfl rfl (fun r1489 hp1489 hI1489 => Or.inl ⟨_, rfl, ?_⟩) (fun E _ _ hE => by cases hE))
  refine cpop 1493 (lI3 88 rfl) rfl rfl ?_
  refine cgoto (lI3 89 rfl) ?_
  exact cmono (hN hp1489 hI1489) (fun y hp9 m9 s9 h9 => ⟨h9.1, by have := h9.2.1; omega, by have := h9.2.2; omega⟩)
theorem cs34J {sc : List Int32} {b : Nat} {i : Int32} {hp : amH} (i0 : 0 ≤ i.toInt) (i1 : i.toInt + 6 ≤ (sc.length : Int)) (hL : sc.length ≤ 100000) (hI : lawJ hp) (hN : ∀ hp1, lawJ hp1 → lV sc b 2284 i hp1) : lV sc (b + 1) 1496 i hp := by
  refine cald 1497 (lI3 90 rfl) rfl rfl ?_
  refine cald 1498 (lI3 91 rfl) rfl rfl ?_
  refine cild2 1500 (lI3 92 rfl) rfl rfl ?_
  refine ccst 1501 (1) (lI3 93 rfl) rfl (by decide) (fun z1500 h1500 => ?_)
  refine cadd 1502 _ (lI3 94 rfl) rfl rfl (by omega) (by omega) (fun z1501 h1501 => ?_)
  refine cscl 1503 (lI3 95 rfl) rfl (by omega) (by omega) (fun w1502 => ?_)
  refine cald 1504 (lI3 96 rfl) rfl rfl ?_
  refine cild2 1506 (lI3 97 rfl) rfl rfl ?_
  refine ccst 1507 (2) (lI3 98 rfl) rfl (by decide) (fun z1506 h1506 => ?_)
  refine cadd 1508 _ (lI3 99 rfl) rfl rfl (by omega) (by omega) (fun z1507 h1507 => ?_)
  refine cscl 1509 (lI3 100 rfl) rfl (by omega) (by omega) (fun w1508 => ?_)
  refine cald 1510 (lI3 101 rfl) rfl rfl ?_
  refine ccall (kd := 1) (t := 0) [.ref 0, .int _, .int _, .ref 83] [] hI.1.1 (lI3 102 rfl) (Or.inr ⟨_, rfl, rfl, by decide⟩) rfl rfl rfl ⟨rfl, rfl, rfl⟩ rfl rfl rfl (h370J (d := 579) hI (fun r1510 hp1510 mc ms hI1510 hmc hms => Or.inl ⟨_, rfl, ?_⟩))
  refine cistU 1515 (lI3 103 rfl) rfl rfl rfl ?_
  refine cald 1516 (lI3 104 rfl) rfl rfl ?_
  refine cald 1517 (lI3 105 rfl) rfl rfl ?_
  refine cild2 1519 (lI3 106 rfl) rfl rfl ?_
  refine ccst 1520 (1) (lI3 107 rfl) rfl (by decide) (fun z1519 h1519 => ?_)
  refine cadd 1521 _ (lI3 108 rfl) rfl rfl (by omega) (by omega) (fun z1520 h1520 => ?_)
  refine cscl 1522 (lI3 109 rfl) rfl (by omega) (by omega) (fun w1521 => ?_)
  refine cald 1523 (lI3 110 rfl) rfl rfl ?_
  refine cild2 1525 (lI3 111 rfl) rfl rfl ?_
  refine ccst 1526 (2) (lI3 112 rfl) rfl (by decide) (fun z1525 h1525 => ?_)
  refine cadd 1527 _ (lI3 113 rfl) rfl rfl (by omega) (by omega) (fun z1526 h1526 => ?_)
  refine cscl 1528 (lI3 114 rfl) rfl (by omega) (by omega) (fun w1527 => ?_)
  refine ccall (kd := 0) (t := 0) [.ref 66, .int _, .int _] [] hI1510.1.1 (lI3 115 rfl) (Or.inl ⟨_, rfl, rfl, by decide, by decide⟩) rfl rfl rfl ⟨rfl, rfl, rfl⟩ rfl (recv66 hI1510.1.1 _) rfl (qTJ (t := 1) (bQ6_s bf_53 (List.mem_of_getElem? (i := 80) rfl)) rfl hI1510 ⟨a66r, ai _, ai _, trivial⟩ rfl rfl rfl (fun r1528 hp1528 hI1528 hw1528 => Or.inl ⟨_, rfl, ?_⟩) (fun E _ _ hE => by cases hE))
  obtain ⟨r1528, rfl⟩ := bT1 hw1528
  refine clstU 1533 (lI3 116 rfl) rfl rfl rfl ?_
  refine cgoto (lI3 117 rfl) ?_
  exact cmono (hN hp1528 hI1528) (fun y hp9 m9 s9 h9 => ⟨h9.1, by have := h9.2.1; omega, by have := h9.2.2; omega⟩)
theorem cs35J {sc : List Int32} {b : Nat} {i : Int32} {hp : amH} (i0 : 0 ≤ i.toInt) (i1 : i.toInt + 6 ≤ (sc.length : Int)) (hL : sc.length ≤ 100000) (hI : lawJ hp) (hN : ∀ hp1, lawJ hp1 → lV sc b 2284 i hp1) : lV sc (b + 1) 1536 i hp := by
  refine cald 1537 (lI3 118 rfl) rfl rfl ?_
  refine ccall (kd := 0) (t := 0) [.ref 0] [] hI.1.1 (lI3 119 rfl) (Or.inl ⟨_, rfl, rfl, by decide, by decide⟩) rfl rfl rfl ⟨rfl, rfl, rfl⟩ rfl (recv0 hI.1.1 _) rfl (qIJ (bL8_s be_111 (List.mem_of_getElem? (i := 80) rfl)) rfl hI ⟨a0r, trivial⟩ rfl rfl rfl (fun r1537 hp1537 hI1537 => Or.inl ⟨_, rfl, ?_⟩) (fun E _ _ hE => by cases hE))
  refine cpop 1541 (lI3 120 rfl) rfl rfl ?_
  refine cald 1542 (lI3 121 rfl) rfl rfl ?_
  refine ccall (kd := 0) (t := 0) [.ref 66] [] hI1537.1.1 (lI3 122 rfl) (Or.inl ⟨_, rfl, rfl, by decide, by decide⟩) rfl rfl rfl ⟨rfl, rfl, rfl⟩ rfl (recv66 hI1537.1.1 _) rfl (qIJ (bQ6_s bf_59 (List.mem_of_getElem? (i := 74) rfl)) rfl hI1537 ⟨a66r, trivial⟩ rfl rfl rfl (fun r1542 hp1542 hI1542 => Or.inl ⟨_, rfl, ?_⟩) (fun E _ _ hE => by cases hE))
  refine cpop 1546 (lI3 123 rfl) rfl rfl ?_
  refine cgoto (lI3 124 rfl) ?_
  exact cmono (hN hp1542 hI1542) (fun y hp9 m9 s9 h9 => ⟨h9.1, by have := h9.2.1; omega, by have := h9.2.2; omega⟩)
/-! ===== the law's cases (j) ===== -/
theorem cs36J {sc : List Int32} {b : Nat} {i : Int32} {hp : amH} (i0 : 0 ≤ i.toInt) (i1 : i.toInt + 6 ≤ (sc.length : Int)) (hL : sc.length ≤ 100000) (hI : lawJ hp) (hN : ∀ hp1, lawJ hp1 → lV sc b 2284 i hp1) : lV sc (b + 1) 1549 i hp := by
  refine cald 1550 (lI3 125 rfl) rfl rfl ?_
  refine ccall (kd := 0) (t := 0) [.ref 0] [] hI.1.1 (lI3 126 rfl) (Or.inl ⟨_, rfl, rfl, by decide, by decide⟩) rfl rfl rfl ⟨rfl, rfl, rfl⟩ rfl (recv0 hI.1.1 _) rfl (qIJ (bL8_s be_113 (List.mem_of_getElem? (i := 78) rfl)) rfl hI ⟨a0r, trivial⟩ rfl rfl rfl (fun r1550 hp1550 hI1550 => Or.inl ⟨_, rfl, ?_⟩) (fun E _ _ hE => by cases hE))
  refine cpop 1554 (lI3 127 rfl) rfl rfl ?_
  refine cald 1555 (lI3 128 rfl) rfl rfl ?_
  refine ccall (kd := 0) (t := 0) [.ref 66] [] hI1550.1.1 (lI3 129 rfl) (Or.inl ⟨_, rfl, rfl, by decide, by decide⟩) rfl rfl rfl ⟨rfl, rfl, rfl⟩ rfl (recv66 hI1550.1.1 _) rfl (qIJ (bQ6_s bf_67 (List.mem_of_getElem? (i := 66) rfl)) rfl hI1550 ⟨a66r, trivial⟩ rfl rfl rfl (fun r1555 hp1555 hI1555 => Or.inl ⟨_, rfl, ?_⟩) (fun E _ _ hE => by cases hE))
  refine cpop 1559 (lI3 130 rfl) rfl rfl ?_
  refine cgoto (lI3 131 rfl) ?_
  exact cmono (hN hp1555 hI1555) (fun y hp9 m9 s9 h9 => ⟨h9.1, by have := h9.2.1; omega, by have := h9.2.2; omega⟩)
theorem cs37J {sc : List Int32} {b : Nat} {i : Int32} {hp : amH} (i0 : 0 ≤ i.toInt) (i1 : i.toInt + 6 ≤ (sc.length : Int)) (hL : sc.length ≤ 100000) (hI : lawJ hp) (hN : ∀ hp1, lawJ hp1 → lV sc b 2284 i hp1) : lV sc (b + 1) 1562 i hp := by
  refine cald 1563 (lI3 132 rfl) rfl rfl ?_
  refine cald 1564 (lI3 133 rfl) rfl rfl ?_
  refine cild2 1566 (lI3 134 rfl) rfl rfl ?_
  refine ccst 1567 (1) (lI3 135 rfl) rfl (by decide) (fun z1566 h1566 => ?_)
  refine cadd 1568 _ (lI3 136 rfl) rfl rfl (by omega) (by omega) (fun z1567 h1567 => ?_)
  refine cscl 1569 (lI3 137 rfl) rfl (by omega) (by omega) (fun w1568 => ?_)
  refine cald 1570 (lI3 138 rfl) rfl rfl ?_
  refine cild2 1572 (lI3 139 rfl) rfl rfl ?_
  refine ccst 1573 (2) (lI3 140 rfl) rfl (by decide) (fun z1572 h1572 => ?_)
  refine cadd 1574 _ (lI3 141 rfl) rfl rfl (by omega) (by omega) (fun z1573 h1573 => ?_)
  refine cscl 1575 (lI3 142 rfl) rfl (by omega) (by omega) (fun w1574 => ?_)
  refine cald 1576 (lI3 143 rfl) rfl rfl ?_
  refine cild2 1578 (lI3 144 rfl) rfl rfl ?_
  refine ccst 1579 (3) (lI3 145 rfl) rfl (by decide) (fun z1578 h1578 => ?_)
  refine cadd 1580 _ (lI3 146 rfl) rfl rfl (by omega) (by omega) (fun z1579 h1579 => ?_)
  refine cscl 1581 (lI3 147 rfl) rfl (by omega) (by omega) (fun w1580 => ?_)
  refine cald 1582 (lI3 148 rfl) rfl rfl ?_
  refine ccall (kd := 1) (t := 0) [.ref 0, .int _, .int _, .int _, .ref 83] [] hI.1.1 (lI3 149 rfl) (Or.inr ⟨_, rfl, rfl, by decide⟩) rfl rfl rfl ⟨rfl, rfl, rfl⟩ rfl rfl rfl (h371J (d := 579) hI (fun r1582 hp1582 mc ms hI1582 hmc hms => Or.inl ⟨_, rfl, ?_⟩))
  refine cistU 1587 (lI3 150 rfl) rfl rfl rfl ?_
  refine cald 1588 (lI3 151 rfl) rfl rfl ?_
  refine cald 1589 (lI3 152 rfl) rfl rfl ?_
  refine cild2 1591 (lI3 153 rfl) rfl rfl ?_
  refine ccst 1592 (1) (lI3 154 rfl) rfl (by decide) (fun z1591 h1591 => ?_)
  refine cadd 1593 _ (lI3 155 rfl) rfl rfl (by omega) (by omega) (fun z1592 h1592 => ?_)
  refine cscl 1594 (lI3 156 rfl) rfl (by omega) (by omega) (fun w1593 => ?_)
  refine cald 1595 (lI3 157 rfl) rfl rfl ?_
  refine cild2 1597 (lI3 158 rfl) rfl rfl ?_
  refine ccst 1598 (2) (lI3 159 rfl) rfl (by decide) (fun z1597 h1597 => ?_)
  refine cadd 1599 _ (lI3 160 rfl) rfl rfl (by omega) (by omega) (fun z1598 h1598 => ?_)
  refine cscl 1600 (lI3 161 rfl) rfl (by omega) (by omega) (fun w1599 => ?_)
  refine cald 1601 (lI3 162 rfl) rfl rfl ?_
  refine cild2 1603 (lI3 163 rfl) rfl rfl ?_
  refine ccst 1604 (3) (lI3 164 rfl) rfl (by decide) (fun z1603 h1603 => ?_)
  refine cadd 1605 _ (lI3 165 rfl) rfl rfl (by omega) (by omega) (fun z1604 h1604 => ?_)
  refine cscl 1606 (lI3 166 rfl) rfl (by omega) (by omega) (fun w1605 => ?_)
  refine ccall (kd := 0) (t := 0) [.ref 66, .int _, .int _, .int _] [] hI1582.1.1 (lI3 167 rfl) (Or.inl ⟨_, rfl, rfl, by decide, by decide⟩) rfl rfl rfl ⟨rfl, rfl, rfl⟩ rfl (recv66 hI1582.1.1 _) rfl (qIJ p314_sQ rfl hI1582 ⟨a66r, ai _, ai _, ai _, trivial⟩ rfl rfl rfl (fun r1606 hp1606 hI1606 => Or.inl ⟨_, rfl, ?_⟩) (fun E _ _ hE => by cases hE))
  refine cistU 1611 (lI3 168 rfl) rfl rfl rfl ?_
  refine cgoto (lI3 169 rfl) ?_
  exact cmono (hN hp1606 hI1606) (fun y hp9 m9 s9 h9 => ⟨h9.1, by have := h9.2.1; omega, by have := h9.2.2; omega⟩)
theorem cs38J {sc : List Int32} {b : Nat} {i : Int32} {hp : amH} (i0 : 0 ≤ i.toInt) (i1 : i.toInt + 6 ≤ (sc.length : Int)) (hL : sc.length ≤ 100000) (hI : lawJ hp) (hN : ∀ hp1, lawJ hp1 → lV sc b 2284 i hp1) : lV sc (b + 1) 1614 i hp := by
  refine cald 1615 (lI3 170 rfl) rfl rfl ?_
  refine cald 1616 (lI3 171 rfl) rfl rfl ?_
  refine cild2 1618 (lI3 172 rfl) rfl rfl ?_
  refine ccst 1619 (1) (lI3 173 rfl) rfl (by decide) (fun z1618 h1618 => ?_)
  refine cadd 1620 _ (lI3 174 rfl) rfl rfl (by omega) (by omega) (fun z1619 h1619 => ?_)
  refine cscl 1621 (lI3 175 rfl) rfl (by omega) (by omega) (fun w1620 => ?_)
  refine cald 1622 (lI3 176 rfl) rfl rfl ?_
  refine cild2 1624 (lI3 177 rfl) rfl rfl ?_
  refine ccst 1625 (2) (lI3 178 rfl) rfl (by decide) (fun z1624 h1624 => ?_)
  refine cadd 1626 _ (lI3 179 rfl) rfl rfl (by omega) (by omega) (fun z1625 h1625 => ?_)
  refine cscl 1627 (lI3 180 rfl) rfl (by omega) (by omega) (fun w1626 => ?_)
  refine cald 1628 (lI3 181 rfl) rfl rfl ?_
  refine cild2 1630 (lI3 182 rfl) rfl rfl ?_
  refine ccst 1631 (3) (lI3 183 rfl) rfl (by decide) (fun z1630 h1630 => ?_)
  refine cadd 1632 _ (lI3 184 rfl) rfl rfl (by omega) (by omega) (fun z1631 h1631 => ?_)
  refine cscl 1633 (lI3 185 rfl) rfl (by omega) (by omega) (fun w1632 => ?_)
  refine cald 1634 (lI3 186 rfl) rfl rfl ?_
  refine ccall (kd := 1) (t := 0) [.ref 0, .int _, .int _, .int _, .ref 83] [] hI.1.1 (lI3 187 rfl) (Or.inr ⟨_, rfl, rfl, by decide⟩) rfl rfl rfl ⟨rfl, rfl, rfl⟩ rfl rfl rfl (h372J (d := 579) hI (fun r1634 hp1634 mc ms hI1634 hmc hms => Or.inl ⟨_, rfl, ?_⟩))
  refine cistU 1639 (lI3 188 rfl) rfl rfl rfl ?_
  refine cald 1640 (lI3 189 rfl) rfl rfl ?_
  refine cald 1641 (lI3 190 rfl) rfl rfl ?_
  refine cild2 1643 (lI3 191 rfl) rfl rfl ?_
  refine ccst 1644 (1) (lI3 192 rfl) rfl (by decide) (fun z1643 h1643 => ?_)
  refine cadd 1645 _ (lI3 193 rfl) rfl rfl (by omega) (by omega) (fun z1644 h1644 => ?_)
  refine cscl 1646 (lI3 194 rfl) rfl (by omega) (by omega) (fun w1645 => ?_)
  refine cald 1647 (lI3 195 rfl) rfl rfl ?_
  refine cild2 1649 (lI3 196 rfl) rfl rfl ?_
  refine ccst 1650 (2) (lI3 197 rfl) rfl (by decide) (fun z1649 h1649 => ?_)
  refine cadd 1651 _ (lI3 198 rfl) rfl rfl (by omega) (by omega) (fun z1650 h1650 => ?_)
  refine cscl 1652 (lI3 199 rfl) rfl (by omega) (by omega) (fun w1651 => ?_)
  refine cald 1653 (lI3 200 rfl) rfl rfl ?_
  refine cild2 1655 (lI3 201 rfl) rfl rfl ?_
  refine ccst 1656 (3) (lI3 202 rfl) rfl (by decide) (fun z1655 h1655 => ?_)
  refine cadd 1657 _ (lI3 203 rfl) rfl rfl (by omega) (by omega) (fun z1656 h1656 => ?_)
  refine cscl 1658 (lI3 204 rfl) rfl (by omega) (by omega) (fun w1657 => ?_)
  refine ccall (kd := 0) (t := 0) [.ref 66, .int _, .int _, .int _] [] hI1634.1.1 (lI3 205 rfl) (Or.inl ⟨_, rfl, rfl, by decide, by decide⟩) rfl rfl rfl ⟨rfl, rfl, rfl⟩ rfl (recv66 hI1634.1.1 _) rfl (qIJ p315_sQ rfl hI1634 ⟨a66r, ai _, ai _, ai _, trivial⟩ rfl rfl rfl (fun r1658 hp1658 hI1658 => Or.inl ⟨_, rfl, ?_⟩) (fun E _ _ hE => by cases hE))
  refine cistU 1663 (lI3 206 rfl) rfl rfl rfl ?_
  refine cgoto (lI3 207 rfl) ?_
  exact cmono (hN hp1658 hI1658) (fun y hp9 m9 s9 h9 => ⟨h9.1, by have := h9.2.1; omega, by have := h9.2.2; omega⟩)
theorem cs39J {sc : List Int32} {b : Nat} {i : Int32} {hp : amH} (i0 : 0 ≤ i.toInt) (i1 : i.toInt + 6 ≤ (sc.length : Int)) (hL : sc.length ≤ 100000) (hI : lawJ hp) (hN : ∀ hp1, lawJ hp1 → lV sc b 2284 i hp1) : lV sc (b + 1) 1666 i hp := by
  refine cald 1667 (lI3 208 rfl) rfl rfl ?_
  refine cald 1668 (lI3 209 rfl) rfl rfl ?_
  refine cild2 1670 (lI3 210 rfl) rfl rfl ?_
  refine ccst 1671 (1) (lI3 211 rfl) rfl (by decide) (fun z1670 h1670 => ?_)
  refine cadd 1672 _ (lI3 212 rfl) rfl rfl (by omega) (by omega) (fun z1671 h1671 => ?_)
  refine cscl 1673 (lI3 213 rfl) rfl (by omega) (by omega) (fun w1672 => ?_)
  refine cald 1674 (lI3 214 rfl) rfl rfl ?_
  refine cild2 1676 (lI3 215 rfl) rfl rfl ?_
  refine ccst 1677 (2) (lI3 216 rfl) rfl (by decide) (fun z1676 h1676 => ?_)
  refine cadd 1678 _ (lI3 217 rfl) rfl rfl (by omega) (by omega) (fun z1677 h1677 => ?_)
  refine cscl 1679 (lI3 218 rfl) rfl (by omega) (by omega) (fun w1678 => ?_)
  refine cald 1680 (lI3 219 rfl) rfl rfl ?_
  refine cild2 1682 (lI3 220 rfl) rfl rfl ?_
  refine ccst 1683 (3) (lI3 221 rfl) rfl (by decide) (fun z1682 h1682 => ?_)
  refine cadd 1684 _ (lI3 222 rfl) rfl rfl (by omega) (by omega) (fun z1683 h1683 => ?_)
  refine cscl 1685 (lI3 223 rfl) rfl (by omega) (by omega) (fun w1684 => ?_)
  refine cald 1686 (lI3 224 rfl) rfl rfl ?_
  refine ccall (kd := 1) (t := 0) [.ref 0, .int _, .int _, .int _, .ref 83] [] hI.1.1 (lI3 225 rfl) (Or.inr ⟨_, rfl, rfl, by decide⟩) rfl rfl rfl ⟨rfl, rfl, rfl⟩ rfl rfl rfl (h373J (d := 579) hI (fun r1686 hp1686 mc ms hI1686 hmc hms => Or.inl ⟨_, rfl, ?_⟩))
  refine cistU 1691 (lI3 226 rfl) rfl rfl rfl ?_
  refine cald 1692 (lI3 227 rfl) rfl rfl ?_
  refine cald 1693 (lI3 228 rfl) rfl rfl ?_
  refine cild2 1695 (lI3 229 rfl) rfl rfl ?_
  refine ccst 1696 (1) (lI3 230 rfl) rfl (by decide) (fun z1695 h1695 => ?_)
  refine cadd 1697 _ (lI3 231 rfl) rfl rfl (by omega) (by omega) (fun z1696 h1696 => ?_)
  refine cscl 1698 (lI3 232 rfl) rfl (by omega) (by omega) (fun w1697 => ?_)
  refine cald 1699 (lI3 233 rfl) rfl rfl ?_
  refine cild2 1701 (lI3 234 rfl) rfl rfl ?_
  refine ccst 1702 (2) (lI3 235 rfl) rfl (by decide) (fun z1701 h1701 => ?_)
  refine cadd 1703 _ (lI3 236 rfl) rfl rfl (by omega) (by omega) (fun z1702 h1702 => ?_)
  refine cscl 1704 (lI3 237 rfl) rfl (by omega) (by omega) (fun w1703 => ?_)
  refine cald 1705 (lI3 238 rfl) rfl rfl ?_
  refine cild2 1707 (lI3 239 rfl) rfl rfl ?_
  refine ccst 1708 (3) (lI3 240 rfl) rfl (by decide) (fun z1707 h1707 => ?_)
  refine cadd 1709 _ (lI3 241 rfl) rfl rfl (by omega) (by omega) (fun z1708 h1708 => ?_)
  refine cscl 1710 (lI3 242 rfl) rfl (by omega) (by omega) (fun w1709 => ?_)
  refine ccall (kd := 0) (t := 0) [.ref 66, .int _, .int _, .int _] [] hI1686.1.1 (lI3 243 rfl) (Or.inl ⟨_, rfl, rfl, by decide, by decide⟩) rfl rfl rfl ⟨rfl, rfl, rfl⟩ rfl (recv66 hI1686.1.1 _) rfl (qIJ p316_sQ rfl hI1686 ⟨a66r, ai _, ai _, ai _, trivial⟩ rfl rfl rfl (fun r1710 hp1710 hI1710 => Or.inl ⟨_, rfl, ?_⟩) (fun E _ _ hE => by cases hE))
  refine cistU 1715 (lI3 244 rfl) rfl rfl rfl ?_
  refine cgoto (lI3 245 rfl) ?_
  exact cmono (hN hp1710 hI1710) (fun y hp9 m9 s9 h9 => ⟨h9.1, by have := h9.2.1; omega, by have := h9.2.2; omega⟩)
theorem cs40J {sc : List Int32} {b : Nat} {i : Int32} {hp : amH} (i0 : 0 ≤ i.toInt) (i1 : i.toInt + 6 ≤ (sc.length : Int)) (hL : sc.length ≤ 100000) (hI : lawJ hp) (hN : ∀ hp1, lawJ hp1 → lV sc b 2284 i hp1) : lV sc (b + 1) 1718 i hp := by
  refine cald 1719 (lI3 246 rfl) rfl rfl ?_
  refine cald 1720 (lI3 247 rfl) rfl rfl ?_
  refine cild2 1722 (lI3 248 rfl) rfl rfl ?_
  refine ccst 1723 (1) (lI3 249 rfl) rfl (by decide) (fun z1722 h1722 => ?_)
  refine cadd 1724 _ (lI4 0 rfl) rfl rfl (by omega) (by omega) (fun z1723 h1723 => ?_)
  refine cscl 1725 (lI4 1 rfl) rfl (by omega) (by omega) (fun w1724 => ?_)
  refine cald 1726 (lI4 2 rfl) rfl rfl ?_
  refine cild2 1728 (lI4 3 rfl) rfl rfl ?_
  refine ccst 1729 (2) (lI4 4 rfl) rfl (by decide) (fun z1728 h1728 => ?_)
  refine cadd 1730 _ (lI4 5 rfl) rfl rfl (by omega) (by omega) (fun z1729 h1729 => ?_)
  refine cscl 1731 (lI4 6 rfl) rfl (by omega) (by omega) (fun w1730 => ?_)
  refine cald 1732 (lI4 7 rfl) rfl rfl ?_
  refine cild2 1734 (lI4 8 rfl) rfl rfl ?_
  refine ccst 1735 (3) (lI4 9 rfl) rfl (by decide) (fun z1734 h1734 => ?_)
  refine cadd 1736 _ (lI4 10 rfl) rfl rfl (by omega) (by omega) (fun z1735 h1735 => ?_)
  refine cscl 1737 (lI4 11 rfl) rfl (by omega) (by omega) (fun w1736 => ?_)
  refine cald 1738 (lI4 12 rfl) rfl rfl ?_
  refine ccall (kd := 1) (t := 0) [.ref 0, .int _, .int _, .int _, .ref 83] [] hI.1.1 (lI4 13 rfl) (Or.inr ⟨_, rfl, rfl, by decide⟩) rfl rfl rfl ⟨rfl, rfl, rfl⟩ rfl rfl rfl (h374J (d := 579) hI (fun r1738 hp1738 mc ms hI1738 hmc hms => Or.inl ⟨_, rfl, ?_⟩))
  refine cistU 1743 (lI4 14 rfl) rfl rfl rfl ?_
  refine cald 1744 (lI4 15 rfl) rfl rfl ?_
  refine cald 1745 (lI4 16 rfl) rfl rfl ?_
  refine cild2 1747 (lI4 17 rfl) rfl rfl ?_
  refine ccst 1748 (1) (lI4 18 rfl) rfl (by decide) (fun z1747 h1747 => ?_)
  refine cadd 1749 _ (lI4 19 rfl) rfl rfl (by omega) (by omega) (fun z1748 h1748 => ?_)
  refine cscl 1750 (lI4 20 rfl) rfl (by omega) (by omega) (fun w1749 => ?_)
  refine cald 1751 (lI4 21 rfl) rfl rfl ?_
  refine cild2 1753 (lI4 22 rfl) rfl rfl ?_
  refine ccst 1754 (2) (lI4 23 rfl) rfl (by decide) (fun z1753 h1753 => ?_)
  refine cadd 1755 _ (lI4 24 rfl) rfl rfl (by omega) (by omega) (fun z1754 h1754 => ?_)
  refine cscl 1756 (lI4 25 rfl) rfl (by omega) (by omega) (fun w1755 => ?_)
  refine cald 1757 (lI4 26 rfl) rfl rfl ?_
  refine cild2 1759 (lI4 27 rfl) rfl rfl ?_
  refine ccst 1760 (3) (lI4 28 rfl) rfl (by decide) (fun z1759 h1759 => ?_)
  refine cadd 1761 _ (lI4 29 rfl) rfl rfl (by omega) (by omega) (fun z1760 h1760 => ?_)
  refine cscl 1762 (lI4 30 rfl) rfl (by omega) (by omega) (fun w1761 => ?_)
  refine ccall (kd := 0) (t := 0) [.ref 66, .int _, .int _, .int _] [] hI1738.1.1 (lI4 31 rfl) (Or.inl ⟨_, rfl, rfl, by decide, by decide⟩) rfl rfl rfl ⟨rfl, rfl, rfl⟩ rfl (recv66 hI1738.1.1 _) rfl (qIJ p317_sQ rfl hI1738 ⟨a66r, ai _, ai _, ai _, trivial⟩ rfl rfl rfl (fun r1762 hp1762 hI1762 => Or.inl ⟨_, rfl, ?_⟩) (fun E _ _ hE => by cases hE))
  refine cistU 1767 (lI4 32 rfl) rfl rfl rfl ?_
  refine cgoto (lI4 33 rfl) ?_
  exact cmono (hN hp1762 hI1762) (fun y hp9 m9 s9 h9 => ⟨h9.1, by have := h9.2.1; omega, by have := h9.2.2; omega⟩)
theorem cs41J {sc : List Int32} {b : Nat} {i : Int32} {hp : amH} (i0 : 0 ≤ i.toInt) (i1 : i.toInt + 6 ≤ (sc.length : Int)) (hL : sc.length ≤ 100000) (hI : lawJ hp) (hN : ∀ hp1, lawJ hp1 → lV sc b 2284 i hp1) : lV sc (b + 1) 1770 i hp := by
  refine cald 1771 (lI4 34 rfl) rfl rfl ?_
  refine cald 1772 (lI4 35 rfl) rfl rfl ?_
  refine cild2 1774 (lI4 36 rfl) rfl rfl ?_
  refine ccst 1775 (1) (lI4 37 rfl) rfl (by decide) (fun z1774 h1774 => ?_)
  refine cadd 1776 _ (lI4 38 rfl) rfl rfl (by omega) (by omega) (fun z1775 h1775 => ?_)
  refine cscl 1777 (lI4 39 rfl) rfl (by omega) (by omega) (fun w1776 => ?_)
  refine cald 1778 (lI4 40 rfl) rfl rfl ?_
  refine ccall (kd := 1) (t := 0) [.ref 0, .int _, .ref 83] [] hI.1.1 (lI4 41 rfl) (Or.inr ⟨_, rfl, rfl, by decide⟩) rfl rfl rfl ⟨rfl, rfl, rfl⟩ rfl rfl rfl (h375J (d := 579) hI (fun r1778 hp1778 mc ms hI1778 hmc hms => Or.inl ⟨_, rfl, ?_⟩))
  refine cistU 1783 (lI4 42 rfl) rfl rfl rfl ?_
  refine cald 1784 (lI4 43 rfl) rfl rfl ?_
  refine cald 1785 (lI4 44 rfl) rfl rfl ?_
  refine cild2 1787 (lI4 45 rfl) rfl rfl ?_
  refine ccst 1788 (1) (lI4 46 rfl) rfl (by decide) (fun z1787 h1787 => ?_)
  refine cadd 1789 _ (lI4 47 rfl) rfl rfl (by omega) (by omega) (fun z1788 h1788 => ?_)
  refine cscl 1790 (lI4 48 rfl) rfl (by omega) (by omega) (fun w1789 => ?_)
  refine ccall (kd := 0) (t := 0) [.ref 66, .int _] [] hI1778.1.1 (lI4 49 rfl) (Or.inl ⟨_, rfl, rfl, by decide, by decide⟩) rfl rfl rfl ⟨rfl, rfl, rfl⟩ rfl (recv66 hI1778.1.1 _) rfl (qIJ p318_sQ rfl hI1778 ⟨a66r, ai _, trivial⟩ rfl rfl rfl (fun r1790 hp1790 hI1790 => Or.inl ⟨_, rfl, ?_⟩) (fun E _ _ hE => by cases hE))
  refine cistU 1795 (lI4 50 rfl) rfl rfl rfl ?_
  refine cgoto (lI4 51 rfl) ?_
  exact cmono (hN hp1790 hI1790) (fun y hp9 m9 s9 h9 => ⟨h9.1, by have := h9.2.1; omega, by have := h9.2.2; omega⟩)
theorem cs42J {sc : List Int32} {b : Nat} {i : Int32} {hp : amH} (i0 : 0 ≤ i.toInt) (i1 : i.toInt + 6 ≤ (sc.length : Int)) (hL : sc.length ≤ 100000) (hI : lawJ hp) (hN : ∀ hp1, lawJ hp1 → lV sc b 2284 i hp1) : lV sc (b + 1) 1798 i hp := by
  refine cald 1799 (lI4 52 rfl) rfl rfl ?_
  refine cald 1800 (lI4 53 rfl) rfl rfl ?_
  refine ccall (kd := 1) (t := 0) [.ref 0, .ref 83] [] hI.1.1 (lI4 54 rfl) (Or.inr ⟨_, rfl, rfl, by decide⟩) rfl rfl rfl ⟨rfl, rfl, rfl⟩ rfl rfl rfl (h376J (d := 579) hI (fun r1800 hp1800 mc ms hI1800 hmc hms => Or.inl ⟨_, rfl, ?_⟩))
  refine cistU 1805 (lI4 55 rfl) rfl rfl rfl ?_
  refine cald 1806 (lI4 56 rfl) rfl rfl ?_
  refine ccall (kd := 0) (t := 0) [.ref 66] [] hI1800.1.1 (lI4 57 rfl) (Or.inl ⟨_, rfl, rfl, by decide, by decide⟩) rfl rfl rfl ⟨rfl, rfl, rfl⟩ rfl (recv66 hI1800.1.1 _) rfl (qIJ p320_sQ rfl hI1800 ⟨a66r, trivial⟩ rfl rfl rfl (fun r1806 hp1806 hI1806 => Or.inl ⟨_, rfl, ?_⟩) (fun E _ _ hE => by cases hE))
  refine cistU 1811 (lI4 58 rfl) rfl rfl rfl ?_
  refine cgoto (lI4 59 rfl) ?_
  exact cmono (hN hp1806 hI1806) (fun y hp9 m9 s9 h9 => ⟨h9.1, by have := h9.2.1; omega, by have := h9.2.2; omega⟩)
theorem cs43J {sc : List Int32} {b : Nat} {i : Int32} {hp : amH} (i0 : 0 ≤ i.toInt) (i1 : i.toInt + 6 ≤ (sc.length : Int)) (hL : sc.length ≤ 100000) (hI : lawJ hp) (hN : ∀ hp1, lawJ hp1 → lV sc b 2284 i hp1) : lV sc (b + 1) 1814 i hp := by
  refine cald 1815 (lI4 60 rfl) rfl rfl ?_
  refine cald 1816 (lI4 61 rfl) rfl rfl ?_
  refine cild2 1818 (lI4 62 rfl) rfl rfl ?_
  refine ccst 1819 (1) (lI4 63 rfl) rfl (by decide) (fun z1818 h1818 => ?_)
  refine cadd 1820 _ (lI4 64 rfl) rfl rfl (by omega) (by omega) (fun z1819 h1819 => ?_)
  refine cscl 1821 (lI4 65 rfl) rfl (by omega) (by omega) (fun w1820 => ?_)
  refine ccall (kd := 0) (t := 0) [.ref 0, .int _] [] hI.1.1 (lI4 66 rfl) (Or.inl ⟨_, rfl, rfl, by decide, by decide⟩) rfl rfl rfl ⟨rfl, rfl, rfl⟩ rfl (recv0 hI.1.1 _) rfl (qIJ (bL8_s be_131 (List.mem_of_getElem? (i := 60) rfl)) rfl hI ⟨a0r, ai _, trivial⟩ rfl rfl rfl (fun r1821 hp1821 hI1821 => Or.inl ⟨_, rfl, ?_⟩) (fun E _ _ hE => by cases hE))
  refine cpop 1825 (lI4 67 rfl) rfl rfl ?_
  refine cald 1826 (lI4 68 rfl) rfl rfl ?_
  refine cald 1827 (lI4 69 rfl) rfl rfl ?_
  refine cild2 1829 (lI4 70 rfl) rfl rfl ?_
  refine ccst 1830 (1) (lI4 71 rfl) rfl (by decide) (fun z1829 h1829 => ?_)
  refine cadd 1831 _ (lI4 72 rfl) rfl rfl (by omega) (by omega) (fun z1830 h1830 => ?_)
  refine cscl 1832 (lI4 73 rfl) rfl (by omega) (by omega) (fun w1831 => ?_)
  refine ccall (kd := 0) (t := 0) [.ref 66, .int _] [] hI1821.1.1 (lI4 74 rfl) (Or.inl ⟨_, rfl, rfl, by decide, by decide⟩) rfl rfl rfl ⟨rfl, rfl, rfl⟩ rfl (recv66 hI1821.1.1 _) rfl (qIJ (bQ6_s bf_69 (List.mem_of_getElem? (i := 64) rfl)) rfl hI1821 ⟨a66r, ai _, trivial⟩ rfl rfl rfl (fun r1832 hp1832 hI1832 => Or.inl ⟨_, rfl, ?_⟩) (fun E _ _ hE => by cases hE))
  refine cpop 1836 (lI4 75 rfl) rfl rfl ?_
  refine cgoto (lI4 76 rfl) ?_
  exact cmono (hN hp1832 hI1832) (fun y hp9 m9 s9 h9 => ⟨h9.1, by have := h9.2.1; omega, by have := h9.2.2; omega⟩)
theorem cs44J {sc : List Int32} {b : Nat} {i : Int32} {hp : amH} (i0 : 0 ≤ i.toInt) (i1 : i.toInt + 6 ≤ (sc.length : Int)) (hL : sc.length ≤ 100000) (hI : lawJ hp) (hN : ∀ hp1, lawJ hp1 → lV sc b 2284 i hp1) : lV sc (b + 1) 1839 i hp := by
  refine cald 1840 (lI4 77 rfl) rfl rfl ?_
  refine ccall (kd := 0) (t := 0) [.ref 0] [] hI.1.1 (lI4 78 rfl) (Or.inl ⟨_, rfl, rfl, by decide, by decide⟩) rfl rfl rfl ⟨rfl, rfl, rfl⟩ rfl (recv0 hI.1.1 _) rfl (qIJ (bL8_s be_133 (List.mem_of_getElem? (i := 58) rfl)) rfl hI ⟨a0r, trivial⟩ rfl rfl rfl (fun r1840 hp1840 hI1840 => Or.inl ⟨_, rfl, ?_⟩) (fun E _ _ hE => by cases hE))
  refine cpop 1844 (lI4 79 rfl) rfl rfl ?_
  refine cald 1845 (lI4 80 rfl) rfl rfl ?_
  refine ccall (kd := 0) (t := 0) [.ref 66] [] hI1840.1.1 (lI4 81 rfl) (Or.inl ⟨_, rfl, rfl, by decide, by decide⟩) rfl rfl rfl ⟨rfl, rfl, rfl⟩ rfl (recv66 hI1840.1.1 _) rfl (qIJ p322_sQ rfl hI1840 ⟨a66r, trivial⟩ rfl rfl rfl (fun r1845 hp1845 hI1845 => Or.inl ⟨_, rfl, ?_⟩) (fun E _ _ hE => by cases hE))
  refine cpop 1849 (lI4 82 rfl) rfl rfl ?_
  refine cgoto (lI4 83 rfl) ?_
  exact cmono (hN hp1845 hI1845) (fun y hp9 m9 s9 h9 => ⟨h9.1, by have := h9.2.1; omega, by have := h9.2.2; omega⟩)
theorem cs45J {sc : List Int32} {b : Nat} {i : Int32} {hp : amH} (i0 : 0 ≤ i.toInt) (i1 : i.toInt + 6 ≤ (sc.length : Int)) (hL : sc.length ≤ 100000) (hI : lawJ hp) (hN : ∀ hp1, lawJ hp1 → lV sc b 2284 i hp1) : lV sc (b + 1) 1852 i hp := by
  refine cald 1853 (lI4 84 rfl) rfl rfl ?_
  refine ccall (kd := 0) (t := 0) [.ref 0] [] hI.1.1 (lI4 85 rfl) (Or.inl ⟨_, rfl, rfl, by decide, by decide⟩) rfl rfl rfl ⟨rfl, rfl, rfl⟩ rfl (recv0 hI.1.1 _) rfl (qIJ (bL8_s be_135 (List.mem_of_getElem? (i := 56) rfl)) rfl hI ⟨a0r, trivial⟩ rfl rfl rfl (fun r1853 hp1853 hI1853 => Or.inl ⟨_, rfl, ?_⟩) (fun E _ _ hE => by cases hE))
  refine cpop 1857 (lI4 86 rfl) rfl rfl ?_
  refine cald 1858 (lI4 87 rfl) rfl rfl ?_
  refine ccall (kd := 0) (t := 0) [.ref 66] [] hI1853.1.1 (lI4 88 rfl) (Or.inl ⟨_, rfl, rfl, by decide, by decide⟩) rfl rfl rfl ⟨rfl, rfl, rfl⟩ rfl (recv66 hI1853.1.1 _) rfl (qIJ p323_sQ rfl hI1853 ⟨a66r, trivial⟩ rfl rfl rfl (fun r1858 hp1858 hI1858 => Or.inl ⟨_, rfl, ?_⟩) (fun E _ _ hE => by cases hE))
  refine cpop 1862 (lI4 89 rfl) rfl rfl ?_
  refine cgoto (lI4 90 rfl) ?_
  exact cmono (hN hp1858 hI1858) (fun y hp9 m9 s9 h9 => ⟨h9.1, by have := h9.2.1; omega, by have := h9.2.2; omega⟩)
theorem cs47J {sc : List Int32} {b : Nat} {i : Int32} {hp : amH} (i0 : 0 ≤ i.toInt) (i1 : i.toInt + 6 ≤ (sc.length : Int)) (hL : sc.length ≤ 100000) (hI : lawJ hp) (hN : ∀ hp1, lawJ hp1 → lV sc b 2284 i hp1) : lV sc (b + 1) 1890 i hp := by
  refine cald 1891 (lI4 108 rfl) rfl rfl ?_
  refine ccall (kd := 0) (t := 0) [.ref 0] [] hI.1.1 (lI4 109 rfl) (Or.inl ⟨_, rfl, rfl, by decide, by decide⟩) rfl rfl rfl ⟨rfl, rfl, rfl⟩ rfl (recv0 hI.1.1 _) rfl (qTJ (t := 2) (bL8_s be_137 (List.mem_of_getElem? (i := 54) rfl)) rfl hI ⟨a0r, trivial⟩ rfl rfl rfl (fun r1891 hp1891 hI1891 hw1891 => Or.inl ⟨_, rfl, ?_⟩) (fun E _ _ hE => by cases hE))
  obtain ⟨r1891, rfl⟩ := bTd hw1891 rfl
  refine cdstU 1896 (lI4 110 rfl) rfl rfl rfl ?_
  refine cald 1897 (lI4 111 rfl) rfl rfl ?_
  refine ccall (kd := 0) (t := 0) [.ref 66] [] hI1891.1.1 (lI4 112 rfl) (Or.inl ⟨_, rfl, rfl, by decide, by decide⟩) rfl rfl rfl ⟨rfl, rfl, rfl⟩ rfl (recv66 hI1891.1.1 _) rfl (qTJ (t := 2) (bQ6_s bf_34 (List.mem_of_getElem? (i := 99) rfl)) rfl hI1891 ⟨a66r, trivial⟩ rfl rfl rfl (fun r1897 hp1897 hI1897 hw1897 => Or.inl ⟨_, rfl, ?_⟩) (fun E _ _ hE => by cases hE))
  obtain ⟨r1897, rfl⟩ := bTd hw1897 rfl
  refine cdstU 1902 (lI4 113 rfl) rfl rfl rfl ?_
  refine cgoto (lI4 114 rfl) ?_
  exact cmono (hN hp1897 hI1897) (fun y hp9 m9 s9 h9 => ⟨h9.1, by have := h9.2.1; omega, by have := h9.2.2; omega⟩)
theorem cs48J {sc : List Int32} {b : Nat} {i : Int32} {hp : amH} (i0 : 0 ≤ i.toInt) (i1 : i.toInt + 6 ≤ (sc.length : Int)) (hL : sc.length ≤ 100000) (hI : lawJ hp) (hN : ∀ hp1, lawJ hp1 → lV sc b 2284 i hp1) : lV sc (b + 1) 1905 i hp := by
  refine cald 1906 (lI4 115 rfl) rfl rfl ?_
  refine ccall (kd := 0) (t := 0) [.ref 0] [] hI.1.1 (lI4 116 rfl) (Or.inl ⟨_, rfl, rfl, by decide, by decide⟩) rfl rfl rfl ⟨rfl, rfl, rfl⟩ rfl (recv0 hI.1.1 _) rfl (qTJ (t := 3) (bL8_s be_s161 (List.mem_of_getElem? (i := 37) rfl)) rfl hI ⟨a0r, trivial⟩ rfl rfl rfl (fun r1906 hp1906 hI1906 hw1906 => Or.inl ⟨_, rfl, ?_⟩) (fun E _ _ hE => by cases hE))
  obtain ⟨r1906, rfl, hx1906⟩ := bTf hw1906 rfl
  refine cf2d 1910 (lI4 117 rfl) rfl hx1906 (fun w1909 => ?_)
  refine cdstU 1912 (lI4 118 rfl) rfl rfl rfl ?_
  refine cald 1913 (lI4 119 rfl) rfl rfl ?_
  refine ccall (kd := 0) (t := 0) [.ref 66] [] hI1906.1.1 (lI4 120 rfl) (Or.inl ⟨_, rfl, rfl, by decide, by decide⟩) rfl rfl rfl ⟨rfl, rfl, rfl⟩ rfl (recv66 hI1906.1.1 _) rfl (qTJ (t := 3) (bQ6_s bf_70 (List.mem_of_getElem? (i := 63) rfl)) rfl hI1906 ⟨a66r, trivial⟩ rfl rfl rfl (fun r1913 hp1913 hI1913 hw1913 => Or.inl ⟨_, rfl, ?_⟩) (fun E _ _ hE => by cases hE))
  obtain ⟨r1913, rfl, hx1913⟩ := bTf hw1913 rfl
  refine cf2d 1917 (lI4 121 rfl) rfl hx1913 (fun w1916 => ?_)
  refine cdstU 1919 (lI4 122 rfl) rfl rfl rfl ?_
  refine cgoto (lI4 123 rfl) ?_
  exact cmono (hN hp1913 hI1913) (fun y hp9 m9 s9 h9 => ⟨h9.1, by have := h9.2.1; omega, by have := h9.2.2; omega⟩)
theorem cs49J {sc : List Int32} {b : Nat} {i : Int32} {hp : amH} (i0 : 0 ≤ i.toInt) (i1 : i.toInt + 6 ≤ (sc.length : Int)) (hL : sc.length ≤ 100000) (hI : lawJ hp) (hN : ∀ hp1, lawJ hp1 → lV sc b 2284 i hp1) : lV sc (b + 1) 1922 i hp := by
  refine cald 1923 (lI4 124 rfl) rfl rfl ?_
  refine cald 1924 (lI4 125 rfl) rfl rfl ?_
  refine cild2 1926 (lI4 126 rfl) rfl rfl ?_
  refine ccst 1927 (1) (lI4 127 rfl) rfl (by decide) (fun z1926 h1926 => ?_)
  refine cadd 1928 _ (lI4 128 rfl) rfl rfl (by omega) (by omega) (fun z1927 h1927 => ?_)
  refine cscl 1929 (lI4 129 rfl) rfl (by omega) (by omega) (fun w1928 => ?_)
  refine cald 1930 (lI4 130 rfl) rfl rfl ?_
  refine ccall (kd := 1) (t := 0) [.ref 0, .int _, .ref 83] [] hI.1.1 (lI4 131 rfl) (Or.inr ⟨_, rfl, rfl, by decide⟩) rfl rfl rfl ⟨rfl, rfl, rfl⟩ rfl rfl rfl (h377J (d := 579) hI (fun r1930 hp1930 mc ms hI1930 hmc hms => Or.inl ⟨_, rfl, ?_⟩))
  refine cistU 1935 (lI4 132 rfl) rfl rfl rfl ?_
  refine cald 1936 (lI4 133 rfl) rfl rfl ?_
  refine cald 1937 (lI4 134 rfl) rfl rfl ?_
  refine cild2 1939 (lI4 135 rfl) rfl rfl ?_
  refine ccst 1940 (1) (lI4 136 rfl) rfl (by decide) (fun z1939 h1939 => ?_)
  refine cadd 1941 _ (lI4 137 rfl) rfl rfl (by omega) (by omega) (fun z1940 h1940 => ?_)
  refine cscl 1942 (lI4 138 rfl) rfl (by omega) (by omega) (fun w1941 => ?_)
  refine ccall (kd := 0) (t := 0) [.ref 66, .int _] [] hI1930.1.1 (lI4 139 rfl) (Or.inl ⟨_, rfl, rfl, by decide, by decide⟩) rfl rfl rfl ⟨rfl, rfl, rfl⟩ rfl (recv66 hI1930.1.1 _) rfl (qIJ p327_sQ rfl hI1930 ⟨a66r, ai _, trivial⟩ rfl rfl rfl (fun r1942 hp1942 hI1942 => Or.inl ⟨_, rfl, ?_⟩) (fun E _ _ hE => by cases hE))
  refine cistU 1947 (lI4 140 rfl) rfl rfl rfl ?_
  refine cgoto (lI4 141 rfl) ?_
  exact cmono (hN hp1942 hI1942) (fun y hp9 m9 s9 h9 => ⟨h9.1, by have := h9.2.1; omega, by have := h9.2.2; omega⟩)
/-! ===== the law's cases (k) ===== -/
theorem cs50J {sc : List Int32} {b : Nat} {i : Int32} {hp : amH} (i0 : 0 ≤ i.toInt) (i1 : i.toInt + 6 ≤ (sc.length : Int)) (hL : sc.length ≤ 100000) (hI : lawJ hp) (hN : ∀ hp1, lawJ hp1 → lV sc b 2284 i hp1) : lV sc (b + 1) 1950 i hp := by
  refine cald 1951 (lI4 142 rfl) rfl rfl ?_
  refine ccall (kd := 0) (t := 0) [.ref 0] [] hI.1.1 (lI4 143 rfl) (Or.inl ⟨_, rfl, rfl, by decide, by decide⟩) rfl rfl rfl ⟨rfl, rfl, rfl⟩ rfl (recv0 hI.1.1 _) rfl (qIJ (bL8_s be_141 (List.mem_of_getElem? (i := 33) rfl)) rfl hI ⟨a0r, trivial⟩ rfl rfl rfl (fun r1951 hp1951 hI1951 => Or.inl ⟨_, rfl, ?_⟩) (fun E _ _ hE => by cases hE))
  refine cpop 1955 (lI4 144 rfl) rfl rfl ?_
  refine cald 1956 (lI4 145 rfl) rfl rfl ?_
  refine ccall (kd := 0) (t := 0) [.ref 66] [] hI1951.1.1 (lI4 146 rfl) (Or.inl ⟨_, rfl, rfl, by decide, by decide⟩) rfl rfl rfl ⟨rfl, rfl, rfl⟩ rfl (recv66 hI1951.1.1 _) rfl (qIJ (bQ6_s bf_83 (List.mem_of_getElem? (i := 50) rfl)) rfl hI1951 ⟨a66r, trivial⟩ rfl rfl rfl (fun r1956 hp1956 hI1956 => Or.inl ⟨_, rfl, ?_⟩) (fun E _ _ hE => by cases hE))
  refine cpop 1960 (lI4 147 rfl) rfl rfl ?_
  refine cgoto (lI4 148 rfl) ?_
  exact cmono (hN hp1956 hI1956) (fun y hp9 m9 s9 h9 => ⟨h9.1, by have := h9.2.1; omega, by have := h9.2.2; omega⟩)
theorem cs51J {sc : List Int32} {b : Nat} {i : Int32} {hp : amH} (i0 : 0 ≤ i.toInt) (i1 : i.toInt + 6 ≤ (sc.length : Int)) (hL : sc.length ≤ 100000) (hI : lawJ hp) (hN : ∀ hp1, lawJ hp1 → lV sc b 2284 i hp1) : lV sc (b + 1) 1963 i hp := by
  refine cald 1964 (lI4 149 rfl) rfl rfl ?_
  refine ccall (kd := 0) (t := 0) [.ref 0] [] hI.1.1 (lI4 150 rfl) (Or.inl ⟨_, rfl, rfl, by decide, by decide⟩) rfl rfl rfl ⟨rfl, rfl, rfl⟩ rfl (recv0 hI.1.1 _) rfl (qIJ (bL8_s be_143 (List.mem_of_getElem? (i := 31) rfl)) rfl hI ⟨a0r, trivial⟩ rfl rfl rfl (fun r1964 hp1964 hI1964 => Or.inl ⟨_, rfl, ?_⟩) (fun E _ _ hE => by cases hE))
  refine cpop 1968 (lI4 151 rfl) rfl rfl ?_
  refine cald 1969 (lI4 152 rfl) rfl rfl ?_
  refine ccall (kd := 0) (t := 0) [.ref 66] [] hI1964.1.1 (lI4 153 rfl) (Or.inl ⟨_, rfl, rfl, by decide, by decide⟩) rfl rfl rfl ⟨rfl, rfl, rfl⟩ rfl (recv66 hI1964.1.1 _) rfl (qIJ (bQ6_s bf_94 (List.mem_of_getElem? (i := 39) rfl)) rfl hI1964 ⟨a66r, trivial⟩ rfl rfl rfl (fun r1969 hp1969 hI1969 => Or.inl ⟨_, rfl, ?_⟩) (fun E _ _ hE => by cases hE))
  refine cpop 1973 (lI4 154 rfl) rfl rfl ?_
  refine cgoto (lI4 155 rfl) ?_
  exact cmono (hN hp1969 hI1969) (fun y hp9 m9 s9 h9 => ⟨h9.1, by have := h9.2.1; omega, by have := h9.2.2; omega⟩)
theorem cs52J {sc : List Int32} {b : Nat} {i : Int32} {hp : amH} (i0 : 0 ≤ i.toInt) (i1 : i.toInt + 6 ≤ (sc.length : Int)) (hL : sc.length ≤ 100000) (hI : lawJ hp) (hN : ∀ hp1, lawJ hp1 → lV sc b 2284 i hp1) : lV sc (b + 1) 1976 i hp := by
  refine cald 1977 (lI4 156 rfl) rfl rfl ?_
  refine cald 1978 (lI4 157 rfl) rfl rfl ?_
  refine cild2 1980 (lI4 158 rfl) rfl rfl ?_
  refine ccst 1981 (1) (lI4 159 rfl) rfl (by decide) (fun z1980 h1980 => ?_)
  refine cadd 1982 _ (lI4 160 rfl) rfl rfl (by omega) (by omega) (fun z1981 h1981 => ?_)
  refine cscl 1983 (lI4 161 rfl) rfl (by omega) (by omega) (fun w1982 => ?_)
  refine cald 1984 (lI4 162 rfl) rfl rfl ?_
  refine ccall (kd := 1) (t := 0) [.ref 0, .int _, .ref 83] [] hI.1.1 (lI4 163 rfl) (Or.inr ⟨_, rfl, rfl, by decide⟩) rfl rfl rfl ⟨rfl, rfl, rfl⟩ rfl rfl rfl (h378J (d := 579) hI (fun r1984 hp1984 mc ms hI1984 hmc hms => Or.inl ⟨_, rfl, ?_⟩))
  refine cistU 1989 (lI4 164 rfl) rfl rfl rfl ?_
  refine cald 1990 (lI4 165 rfl) rfl rfl ?_
  refine cald 1991 (lI4 166 rfl) rfl rfl ?_
  refine cild2 1993 (lI4 167 rfl) rfl rfl ?_
  refine ccst 1994 (1) (lI4 168 rfl) rfl (by decide) (fun z1993 h1993 => ?_)
  refine cadd 1995 _ (lI4 169 rfl) rfl rfl (by omega) (by omega) (fun z1994 h1994 => ?_)
  refine cscl 1996 (lI4 170 rfl) rfl (by omega) (by omega) (fun w1995 => ?_)
  refine ccall (kd := 0) (t := 0) [.ref 66, .int _] [] hI1984.1.1 (lI4 171 rfl) (Or.inl ⟨_, rfl, rfl, by decide, by decide⟩) rfl rfl rfl ⟨rfl, rfl, rfl⟩ rfl (recv66 hI1984.1.1 _) rfl (qIJ (bQ6_s bf_95 (List.mem_of_getElem? (i := 38) rfl)) rfl hI1984 ⟨a66r, ai _, trivial⟩ rfl rfl rfl (fun r1996 hp1996 hI1996 => Or.inl ⟨_, rfl, ?_⟩) (fun E _ _ hE => by cases hE))
  refine cistU 2001 (lI4 172 rfl) rfl rfl rfl ?_
  refine cgoto (lI4 173 rfl) ?_
  exact cmono (hN hp1996 hI1996) (fun y hp9 m9 s9 h9 => ⟨h9.1, by have := h9.2.1; omega, by have := h9.2.2; omega⟩)
theorem cs53J {sc : List Int32} {b : Nat} {i : Int32} {hp : amH} (i0 : 0 ≤ i.toInt) (i1 : i.toInt + 6 ≤ (sc.length : Int)) (hL : sc.length ≤ 100000) (hI : lawJ hp) (hN : ∀ hp1, lawJ hp1 → lV sc b 2284 i hp1) : lV sc (b + 1) 2004 i hp := by
  refine cald 2005 (lI4 174 rfl) rfl rfl ?_
  refine ccall (kd := 0) (t := 0) [.ref 0] [] hI.1.1 (lI4 175 rfl) (Or.inl ⟨_, rfl, rfl, by decide, by decide⟩) rfl rfl rfl ⟨rfl, rfl, rfl⟩ rfl (recv0 hI.1.1 _) rfl (qIJ (bL8_s be_156 (List.mem_of_getElem? (i := 18) rfl)) rfl hI ⟨a0r, trivial⟩ rfl rfl rfl (fun r2005 hp2005 hI2005 => Or.inl ⟨_, rfl, ?_⟩) (fun E _ _ hE => by cases hE))
  refine cpop 2009 (lI4 176 rfl) rfl rfl ?_
  refine cald 2010 (lI4 177 rfl) rfl rfl ?_
  refine ccall (kd := 0) (t := 0) [.ref 66] [] hI2005.1.1 (lI4 178 rfl) (Or.inl ⟨_, rfl, rfl, by decide, by decide⟩) rfl rfl rfl ⟨rfl, rfl, rfl⟩ rfl (recv66 hI2005.1.1 _) rfl (qIJ (bQ6_s bf_132 (List.mem_of_getElem? (i := 1) rfl)) rfl hI2005 ⟨a66r, trivial⟩ rfl rfl rfl (fun r2010 hp2010 hI2010 => Or.inl ⟨_, rfl, ?_⟩) (fun E _ _ hE => by cases hE))
  refine cpop 2014 (lI4 179 rfl) rfl rfl ?_
  refine cgoto (lI4 180 rfl) ?_
  exact cmono (hN hp2010 hI2010) (fun y hp9 m9 s9 h9 => ⟨h9.1, by have := h9.2.1; omega, by have := h9.2.2; omega⟩)
theorem cs56J {sc : List Int32} {b : Nat} {i : Int32} {hp : amH} (i0 : 0 ≤ i.toInt) (i1 : i.toInt + 6 ≤ (sc.length : Int)) (hL : sc.length ≤ 100000) (hI : lawJ hp) (hN : ∀ hp1, lawJ hp1 → lV sc b 2284 i hp1) : lV sc (b + 1) 2085 i hp := by
  refine cald 2086 (lI4 227 rfl) rfl rfl ?_
  refine cald 2087 (lI4 228 rfl) rfl rfl ?_
  refine cild2 2089 (lI4 229 rfl) rfl rfl ?_
  refine ccst 2090 (1) (lI4 230 rfl) rfl (by decide) (fun z2089 h2089 => ?_)
  refine cadd 2091 _ (lI4 231 rfl) rfl rfl (by omega) (by omega) (fun z2090 h2090 => ?_)
  refine cscl 2092 (lI4 232 rfl) rfl (by omega) (by omega) (fun w2091 => ?_)
  refine cald 2093 (lI4 233 rfl) rfl rfl ?_
  refine cild2 2095 (lI4 234 rfl) rfl rfl ?_
  refine ccst 2096 (2) (lI4 235 rfl) rfl (by decide) (fun z2095 h2095 => ?_)
  refine cadd 2097 _ (lI4 236 rfl) rfl rfl (by omega) (by omega) (fun z2096 h2096 => ?_)
  refine cscl 2098 (lI4 237 rfl) rfl (by omega) (by omega) (fun w2097 => ?_)
  refine cald 2099 (lI4 238 rfl) rfl rfl ?_
  refine cild2 2101 (lI4 239 rfl) rfl rfl ?_
  refine ccst 2102 (3) (lI4 240 rfl) rfl (by decide) (fun z2101 h2101 => ?_)
  refine cadd 2103 _ (lI4 241 rfl) rfl rfl (by omega) (by omega) (fun z2102 h2102 => ?_)
  refine cscl 2104 (lI4 242 rfl) rfl (by omega) (by omega) (fun w2103 => ?_)
  refine cald 2105 (lI4 243 rfl) rfl rfl ?_
  refine ccall (kd := 1) (t := 0) [.ref 0, .int _, .int _, .int _, .ref 83] [] hI.1.1 (lI4 244 rfl) (Or.inr ⟨_, rfl, rfl, by decide⟩) rfl rfl rfl ⟨rfl, rfl, rfl⟩ rfl rfl rfl (h381J (d := 579) hI (fun r2105 hp2105 mc ms hI2105 hmc hms => Or.inl ⟨_, rfl, ?_⟩))
  refine cistU 2110 (lI4 245 rfl) rfl rfl rfl ?_
  refine cald 2111 (lI4 246 rfl) rfl rfl ?_
  refine cald 2112 (lI4 247 rfl) rfl rfl ?_
  refine cild2 2114 (lI4 248 rfl) rfl rfl ?_
  refine ccst 2115 (1) (lI4 249 rfl) rfl (by decide) (fun z2114 h2114 => ?_)
  refine cadd 2116 _ (lI5 0 rfl) rfl rfl (by omega) (by omega) (fun z2115 h2115 => ?_)
  refine cscl 2117 (lI5 1 rfl) rfl (by omega) (by omega) (fun w2116 => ?_)
  refine cald 2118 (lI5 2 rfl) rfl rfl ?_
  refine cild2 2120 (lI5 3 rfl) rfl rfl ?_
  refine ccst 2121 (2) (lI5 4 rfl) rfl (by decide) (fun z2120 h2120 => ?_)
  refine cadd 2122 _ (lI5 5 rfl) rfl rfl (by omega) (by omega) (fun z2121 h2121 => ?_)
  refine cscl 2123 (lI5 6 rfl) rfl (by omega) (by omega) (fun w2122 => ?_)
  refine cald 2124 (lI5 7 rfl) rfl rfl ?_
  refine cild2 2126 (lI5 8 rfl) rfl rfl ?_
  refine ccst 2127 (3) (lI5 9 rfl) rfl (by decide) (fun z2126 h2126 => ?_)
  refine cadd 2128 _ (lI5 10 rfl) rfl rfl (by omega) (by omega) (fun z2127 h2127 => ?_)
  refine cscl 2129 (lI5 11 rfl) rfl (by omega) (by omega) (fun w2128 => ?_)
  refine ccall (kd := 0) (t := 0) [.ref 66, .int _, .int _, .int _] [] hI2105.1.1 (lI5 12 rfl) (Or.inl ⟨_, rfl, rfl, by decide, by decide⟩) rfl rfl rfl ⟨rfl, rfl, rfl⟩ rfl (recv66 hI2105.1.1 _) rfl (qIJ (bQ6_s bf_18 (List.mem_of_getElem? (i := 115) rfl)) rfl hI2105 ⟨a66r, ai _, ai _, ai _, trivial⟩ rfl rfl rfl (fun r2129 hp2129 hI2129 => Or.inl ⟨_, rfl, ?_⟩) (fun E _ _ hE => by cases hE))
  refine cistU 2134 (lI5 13 rfl) rfl rfl rfl ?_
  refine cgoto (lI5 14 rfl) ?_
  exact cmono (hN hp2129 hI2129) (fun y hp9 m9 s9 h9 => ⟨h9.1, by have := h9.2.1; omega, by have := h9.2.2; omega⟩)
theorem cs58J {sc : List Int32} {b : Nat} {i : Int32} {hp : amH} (i0 : 0 ≤ i.toInt) (i1 : i.toInt + 6 ≤ (sc.length : Int)) (hL : sc.length ≤ 100000) (hI : lawJ hp) (hN : ∀ hp1, lawJ hp1 → lV sc b 2284 i hp1) : lV sc (b + 1) 2189 i hp := by
  refine cald 2190 (lI5 53 rfl) rfl rfl ?_
  refine cald 2191 (lI5 54 rfl) rfl rfl ?_
  refine cild2 2193 (lI5 55 rfl) rfl rfl ?_
  refine ccst 2194 (1) (lI5 56 rfl) rfl (by decide) (fun z2193 h2193 => ?_)
  refine cadd 2195 _ (lI5 57 rfl) rfl rfl (by omega) (by omega) (fun z2194 h2194 => ?_)
  refine cscl 2196 (lI5 58 rfl) rfl (by omega) (by omega) (fun w2195 => ?_)
  refine cald 2197 (lI5 59 rfl) rfl rfl ?_
  refine ccall (kd := 1) (t := 0) [.ref 0, .int _, .ref 83] [] hI.1.1 (lI5 60 rfl) (Or.inr ⟨_, rfl, rfl, by decide⟩) rfl rfl rfl ⟨rfl, rfl, rfl⟩ rfl rfl rfl (h383J (d := 579) hI (fun r2197 hp2197 mc ms hI2197 hmc hms => Or.inl ⟨_, rfl, ?_⟩))
  refine cistU 2202 (lI5 61 rfl) rfl rfl rfl ?_
  refine cald 2203 (lI5 62 rfl) rfl rfl ?_
  refine cald 2204 (lI5 63 rfl) rfl rfl ?_
  refine cild2 2206 (lI5 64 rfl) rfl rfl ?_
  refine ccst 2207 (1) (lI5 65 rfl) rfl (by decide) (fun z2206 h2206 => ?_)
  refine cadd 2208 _ (lI5 66 rfl) rfl rfl (by omega) (by omega) (fun z2207 h2207 => ?_)
  refine cscl 2209 (lI5 67 rfl) rfl (by omega) (by omega) (fun w2208 => ?_)
  refine ccall (kd := 0) (t := 0) [.ref 66, .int _] [] hI2197.1.1 (lI5 68 rfl) (Or.inl ⟨_, rfl, rfl, by decide, by decide⟩) rfl rfl rfl ⟨rfl, rfl, rfl⟩ rfl (recv66 hI2197.1.1 _) rfl (qIJ p337_sQ rfl hI2197 ⟨a66r, ai _, trivial⟩ rfl rfl rfl (fun r2209 hp2209 hI2209 => Or.inl ⟨_, rfl, ?_⟩) (fun E _ _ hE => by cases hE))
  refine cistU 2214 (lI5 69 rfl) rfl rfl rfl ?_
  refine cgoto (lI5 70 rfl) ?_
  exact cmono (hN hp2209 hI2209) (fun y hp9 m9 s9 h9 => ⟨h9.1, by have := h9.2.1; omega, by have := h9.2.2; omega⟩)
theorem cs59J {sc : List Int32} {b : Nat} {i : Int32} {hp : amH} (i0 : 0 ≤ i.toInt) (i1 : i.toInt + 6 ≤ (sc.length : Int)) (hL : sc.length ≤ 100000) (hI : lawJ hp) (hN : ∀ hp1, lawJ hp1 → lV sc b 2284 i hp1) : lV sc (b + 1) 2217 i hp := by
  refine cald 2218 (lI5 71 rfl) rfl rfl ?_
  refine cald 2219 (lI5 72 rfl) rfl rfl ?_
  refine cild2 2221 (lI5 73 rfl) rfl rfl ?_
  refine ccst 2222 (1) (lI5 74 rfl) rfl (by decide) (fun z2221 h2221 => ?_)
  refine cadd 2223 _ (lI5 75 rfl) rfl rfl (by omega) (by omega) (fun z2222 h2222 => ?_)
  refine cscl 2224 (lI5 76 rfl) rfl (by omega) (by omega) (fun w2223 => ?_)
  refine ccall (kd := 0) (t := 0) [.ref 0, .int _] [] hI.1.1 (lI5 77 rfl) (Or.inl ⟨_, rfl, rfl, by decide, by decide⟩) rfl rfl rfl ⟨rfl, rfl, rfl⟩ rfl (recv0 hI.1.1 _) rfl (qIJ (bL8_s be_165 (List.mem_of_getElem? (i := 9) rfl)) rfl hI ⟨a0r, ai _, trivial⟩ rfl rfl rfl (fun r2224 hp2224 hI2224 => Or.inl ⟨_, rfl, ?_⟩) (fun E _ _ hE => by cases hE))
  refine cpop 2228 (lI5 78 rfl) rfl rfl ?_
  refine cald 2229 (lI5 79 rfl) rfl rfl ?_
  refine cald 2230 (lI5 80 rfl) rfl rfl ?_
  refine cild2 2232 (lI5 81 rfl) rfl rfl ?_
  refine ccst 2233 (1) (lI5 82 rfl) rfl (by decide) (fun z2232 h2232 => ?_)
  refine cadd 2234 _ (lI5 83 rfl) rfl rfl (by omega) (by omega) (fun z2233 h2233 => ?_)
  refine cscl 2235 (lI5 84 rfl) rfl (by omega) (by omega) (fun w2234 => ?_)
  refine ccall (kd := 0) (t := 0) [.ref 66, .int _] [] hI2224.1.1 (lI5 85 rfl) (Or.inl ⟨_, rfl, rfl, by decide, by decide⟩) rfl rfl rfl ⟨rfl, rfl, rfl⟩ rfl (recv66 hI2224.1.1 _) rfl (qIJ (bQ6_s bf_133 (List.mem_of_getElem? (i := 0) rfl)) rfl hI2224 ⟨a66r, ai _, trivial⟩ rfl rfl rfl (fun r2235 hp2235 hI2235 => Or.inl ⟨_, rfl, ?_⟩) (fun E _ _ hE => by cases hE))
  refine cpop 2239 (lI5 86 rfl) rfl rfl ?_
  refine cgoto (lI5 87 rfl) ?_
  exact cmono (hN hp2235 hI2235) (fun y hp9 m9 s9 h9 => ⟨h9.1, by have := h9.2.1; omega, by have := h9.2.2; omega⟩)
