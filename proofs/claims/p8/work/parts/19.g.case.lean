/-! ===== the law's cases (g) ===== -/
theorem cs3 {sc : List Int32} {b : Nat} {i : Int32} {hp : amH} (i0 : 0 ≤ i.toInt) (i1 : i.toInt + 6 ≤ (sc.length : Int)) (hL : sc.length ≤ 100000) (hI : lawI hp) (hN : ∀ hp1, lawI hp1 → lV sc b 2256 i hp1) : lV sc (b + 1) 419 i hp := by
  refine cald 420 (lI0 106 rfl) rfl rfl ?_
  refine ccall (kd := 0) (t := 0) [.ref 0] [] hI.1 (lI0 107 rfl) (Or.inl ⟨_, rfl, rfl, by decide, by decide⟩) rfl rfl rfl ⟨rfl, rfl, rfl⟩ rfl (recv0 hI.1 _) rfl (qI (bL8_s be_28 (List.mem_of_getElem? (i := 168) rfl)) rfl hI ⟨a0r, trivial⟩ rfl rfl rfl rfl (fun r420 hp420 hI420 => Or.inl ⟨_, rfl, ?_⟩) (fun E _ _ hE => by cases hE))
  refine cpop 424 (lI0 108 rfl) rfl rfl ?_
  refine cald 425 (lI0 109 rfl) rfl rfl ?_
  refine ccall (kd := 0) (t := 0) [.ref 66] [] hI420.1 (lI0 110 rfl) (Or.inl ⟨_, rfl, rfl, by decide, by decide⟩) rfl rfl rfl ⟨rfl, rfl, rfl⟩ rfl (recv66 hI420.1 _) rfl (qI (bQ6_s bf_2 (List.mem_of_getElem? (i := 131) rfl)) rfl hI420 ⟨a66r, trivial⟩ rfl rfl rfl rfl (fun r425 hp425 hI425 => Or.inl ⟨_, rfl, ?_⟩) (fun E _ _ hE => by cases hE))
  refine cpop 429 (lI0 111 rfl) rfl rfl ?_
  refine cgoto (lI0 112 rfl) ?_
  exact cmono (hN hp425 hI425) (fun y hp9 m9 s9 h9 => ⟨h9.1, by have := h9.2.1; omega, by have := h9.2.2; omega⟩)
theorem cs4 {sc : List Int32} {b : Nat} {i : Int32} {hp : amH} (i0 : 0 ≤ i.toInt) (i1 : i.toInt + 6 ≤ (sc.length : Int)) (hL : sc.length ≤ 100000) (hI : lawI hp) (hN : ∀ hp1, lawI hp1 → lV sc b 2256 i hp1) : lV sc (b + 1) 432 i hp := by
  refine cald 433 (lI0 113 rfl) rfl rfl ?_
  refine ccall (kd := 0) (t := 0) [.ref 0] [] hI.1 (lI0 114 rfl) (Or.inl ⟨_, rfl, rfl, by decide, by decide⟩) rfl rfl rfl ⟨rfl, rfl, rfl⟩ rfl (recv0 hI.1 _) rfl (qI (bL8_s be_29 (List.mem_of_getElem? (i := 167) rfl)) rfl hI ⟨a0r, trivial⟩ rfl rfl rfl rfl (fun r433 hp433 hI433 => Or.inl ⟨_, rfl, ?_⟩) (fun E _ _ hE => by cases hE))
  refine cpop 437 (lI0 115 rfl) rfl rfl ?_
  refine cald 438 (lI0 116 rfl) rfl rfl ?_
  refine ccall (kd := 0) (t := 0) [.ref 66] [] hI433.1 (lI0 117 rfl) (Or.inl ⟨_, rfl, rfl, by decide, by decide⟩) rfl rfl rfl ⟨rfl, rfl, rfl⟩ rfl (recv66 hI433.1 _) rfl (qI (bQ6_s bf_3 (List.mem_of_getElem? (i := 130) rfl)) rfl hI433 ⟨a66r, trivial⟩ rfl rfl rfl rfl (fun r438 hp438 hI438 => Or.inl ⟨_, rfl, ?_⟩) (fun E _ _ hE => by cases hE))
  refine cpop 442 (lI0 118 rfl) rfl rfl ?_
  refine cgoto (lI0 119 rfl) ?_
  exact cmono (hN hp438 hI438) (fun y hp9 m9 s9 h9 => ⟨h9.1, by have := h9.2.1; omega, by have := h9.2.2; omega⟩)
theorem cs5 {sc : List Int32} {b : Nat} {i : Int32} {hp : amH} (i0 : 0 ≤ i.toInt) (i1 : i.toInt + 6 ≤ (sc.length : Int)) (hL : sc.length ≤ 100000) (hI : lawI hp) (hN : ∀ hp1, lawI hp1 → lV sc b 2256 i hp1) : lV sc (b + 1) 445 i hp := by
  refine cald 446 (lI0 120 rfl) rfl rfl ?_
  refine cald 447 (lI0 121 rfl) rfl rfl ?_
  refine cild2 449 (lI0 122 rfl) rfl rfl ?_
  refine ccst 450 (1) (lI0 123 rfl) rfl (by decide) (fun z449 h449 => ?_)
  refine cadd 451 _ (lI0 124 rfl) rfl rfl (by omega) (by omega) (fun z450 h450 => ?_)
  refine cscl 452 (lI0 125 rfl) rfl (by omega) (by omega) (fun w451 => ?_)
  refine cald 453 (lI0 126 rfl) rfl rfl ?_
  refine ccall (kd := 1) (t := 0) [.ref 0, .int _, .ref 83] [] hI.1 (lI0 127 rfl) (Or.inr ⟨_, rfl, rfl, by decide⟩) rfl rfl rfl ⟨rfl, rfl, rfl⟩ rfl rfl rfl (h348 (d := 579) hI (fun r453 hp453 mc ms hI453 hmc hms => Or.inl ⟨_, rfl, ?_⟩))
  refine cistU 458 (lI0 128 rfl) rfl rfl rfl ?_
  refine cald 459 (lI0 129 rfl) rfl rfl ?_
  refine cald 460 (lI0 130 rfl) rfl rfl ?_
  refine cild2 462 (lI0 131 rfl) rfl rfl ?_
  refine ccst 463 (1) (lI0 132 rfl) rfl (by decide) (fun z462 h462 => ?_)
  refine cadd 464 _ (lI0 133 rfl) rfl rfl (by omega) (by omega) (fun z463 h463 => ?_)
  refine cscl 465 (lI0 134 rfl) rfl (by omega) (by omega) (fun w464 => ?_)
  refine ccall (kd := 0) (t := 0) [.ref 66, .int _] [] hI453.1 (lI0 135 rfl) (Or.inl ⟨_, rfl, rfl, by decide, by decide⟩) rfl rfl rfl ⟨rfl, rfl, rfl⟩ rfl (recv66 hI453.1 _) rfl (qI (bQ6_s bf_10 (List.mem_of_getElem? (i := 123) rfl)) rfl hI453 ⟨a66r, ai _, trivial⟩ rfl rfl rfl rfl (fun r465 hp465 hI465 => Or.inl ⟨_, rfl, ?_⟩) (fun E _ _ hE => by cases hE))
  refine cistU 470 (lI0 136 rfl) rfl rfl rfl ?_
  refine cgoto (lI0 137 rfl) ?_
  exact cmono (hN hp465 hI465) (fun y hp9 m9 s9 h9 => ⟨h9.1, by have := h9.2.1; omega, by have := h9.2.2; omega⟩)
theorem cs6 {sc : List Int32} {b : Nat} {i : Int32} {hp : amH} (i0 : 0 ≤ i.toInt) (i1 : i.toInt + 6 ≤ (sc.length : Int)) (hL : sc.length ≤ 100000) (hI : lawI hp) (hN : ∀ hp1, lawI hp1 → lV sc b 2256 i hp1) : lV sc (b + 1) 473 i hp := by
  refine cald 474 (lI0 138 rfl) rfl rfl ?_
  refine ccall (kd := 0) (t := 0) [.ref 0] [] hI.1 (lI0 139 rfl) (Or.inl ⟨_, rfl, rfl, by decide, by decide⟩) rfl rfl rfl ⟨rfl, rfl, rfl⟩ rfl (recv0 hI.1 _) rfl (qI (bL8_s be_32 (List.mem_of_getElem? (i := 164) rfl)) rfl hI ⟨a0r, trivial⟩ rfl rfl rfl rfl (fun r474 hp474 hI474 => Or.inl ⟨_, rfl, ?_⟩) (fun E _ _ hE => by cases hE))
  refine cpop 478 (lI0 140 rfl) rfl rfl ?_
  refine cald 479 (lI0 141 rfl) rfl rfl ?_
  refine ccall (kd := 0) (t := 0) [.ref 66] [] hI474.1 (lI0 142 rfl) (Or.inl ⟨_, rfl, rfl, by decide, by decide⟩) rfl rfl rfl ⟨rfl, rfl, rfl⟩ rfl (recv66 hI474.1 _) rfl (qI (bQ6_s bf_11 (List.mem_of_getElem? (i := 122) rfl)) rfl hI474 ⟨a66r, trivial⟩ rfl rfl rfl rfl (fun r479 hp479 hI479 => Or.inl ⟨_, rfl, ?_⟩) (fun E _ _ hE => by cases hE))
  refine cpop 483 (lI0 143 rfl) rfl rfl ?_
  refine cgoto (lI0 144 rfl) ?_
  exact cmono (hN hp479 hI479) (fun y hp9 m9 s9 h9 => ⟨h9.1, by have := h9.2.1; omega, by have := h9.2.2; omega⟩)
theorem cs7 {sc : List Int32} {b : Nat} {i : Int32} {hp : amH} (i0 : 0 ≤ i.toInt) (i1 : i.toInt + 6 ≤ (sc.length : Int)) (hL : sc.length ≤ 100000) (hI : lawI hp) (hN : ∀ hp1, lawI hp1 → lV sc b 2256 i hp1) : lV sc (b + 1) 486 i hp := by
  refine cald 487 (lI0 145 rfl) rfl rfl ?_
  refine cald 488 (lI0 146 rfl) rfl rfl ?_
  refine cild2 490 (lI0 147 rfl) rfl rfl ?_
  refine ccst 491 (1) (lI0 148 rfl) rfl (by decide) (fun z490 h490 => ?_)
  refine cadd 492 _ (lI0 149 rfl) rfl rfl (by omega) (by omega) (fun z491 h491 => ?_)
  refine cscl 493 (lI0 150 rfl) rfl (by omega) (by omega) (fun w492 => ?_)
  refine cald 494 (lI0 151 rfl) rfl rfl ?_
  refine cild2 496 (lI0 152 rfl) rfl rfl ?_
  refine ccst 497 (2) (lI0 153 rfl) rfl (by decide) (fun z496 h496 => ?_)
  refine cadd 498 _ (lI0 154 rfl) rfl rfl (by omega) (by omega) (fun z497 h497 => ?_)
  refine cscl 499 (lI0 155 rfl) rfl (by omega) (by omega) (fun w498 => ?_)
  refine cald 500 (lI0 156 rfl) rfl rfl ?_
  refine ccall (kd := 1) (t := 0) [.ref 0, .int _, .int _, .ref 83] [] hI.1 (lI0 157 rfl) (Or.inr ⟨_, rfl, rfl, by decide⟩) rfl rfl rfl ⟨rfl, rfl, rfl⟩ rfl rfl rfl (h349 (d := 579) hI (fun r500 hp500 mc ms hI500 hmc hms => Or.inl ⟨_, rfl, ?_⟩))
  refine cistU 505 (lI0 158 rfl) rfl rfl rfl ?_
  refine cald 506 (lI0 159 rfl) rfl rfl ?_
  refine cald 507 (lI0 160 rfl) rfl rfl ?_
  refine cild2 509 (lI0 161 rfl) rfl rfl ?_
  refine ccst 510 (1) (lI0 162 rfl) rfl (by decide) (fun z509 h509 => ?_)
  refine cadd 511 _ (lI0 163 rfl) rfl rfl (by omega) (by omega) (fun z510 h510 => ?_)
  refine cscl 512 (lI0 164 rfl) rfl (by omega) (by omega) (fun w511 => ?_)
  refine cald 513 (lI0 165 rfl) rfl rfl ?_
  refine cild2 515 (lI0 166 rfl) rfl rfl ?_
  refine ccst 516 (2) (lI0 167 rfl) rfl (by decide) (fun z515 h515 => ?_)
  refine cadd 517 _ (lI0 168 rfl) rfl rfl (by omega) (by omega) (fun z516 h516 => ?_)
  refine cscl 518 (lI0 169 rfl) rfl (by omega) (by omega) (fun w517 => ?_)
  refine ccall (kd := 0) (t := 0) [.ref 66, .int _, .int _] [] hI500.1 (lI0 170 rfl) (Or.inl ⟨_, rfl, rfl, by decide, by decide⟩) rfl rfl rfl ⟨rfl, rfl, rfl⟩ rfl (recv66 hI500.1 _) rfl (qI (bQ6_s bf_12 (List.mem_of_getElem? (i := 121) rfl)) rfl hI500 ⟨a66r, ai _, ai _, trivial⟩ rfl rfl rfl rfl (fun r518 hp518 hI518 => Or.inl ⟨_, rfl, ?_⟩) (fun E _ _ hE => by cases hE))
  refine cistU 523 (lI0 171 rfl) rfl rfl rfl ?_
  refine cgoto (lI0 172 rfl) ?_
  exact cmono (hN hp518 hI518) (fun y hp9 m9 s9 h9 => ⟨h9.1, by have := h9.2.1; omega, by have := h9.2.2; omega⟩)
theorem cs8 {sc : List Int32} {b : Nat} {i : Int32} {hp : amH} (i0 : 0 ≤ i.toInt) (i1 : i.toInt + 6 ≤ (sc.length : Int)) (hL : sc.length ≤ 100000) (hI : lawI hp) (hN : ∀ hp1, lawI hp1 → lV sc b 2256 i hp1) : lV sc (b + 1) 526 i hp := by
  refine cald 527 (lI0 173 rfl) rfl rfl ?_
  refine cald 528 (lI0 174 rfl) rfl rfl ?_
  refine cild2 530 (lI0 175 rfl) rfl rfl ?_
  refine ccst 531 (1) (lI0 176 rfl) rfl (by decide) (fun z530 h530 => ?_)
  refine cadd 532 _ (lI0 177 rfl) rfl rfl (by omega) (by omega) (fun z531 h531 => ?_)
  refine cscl 533 (lI0 178 rfl) rfl (by omega) (by omega) (fun w532 => ?_)
  refine cald 534 (lI0 179 rfl) rfl rfl ?_
  refine cild2 536 (lI0 180 rfl) rfl rfl ?_
  refine ccst 537 (2) (lI0 181 rfl) rfl (by decide) (fun z536 h536 => ?_)
  refine cadd 538 _ (lI0 182 rfl) rfl rfl (by omega) (by omega) (fun z537 h537 => ?_)
  refine cscl 539 (lI0 183 rfl) rfl (by omega) (by omega) (fun w538 => ?_)
  refine cald 540 (lI0 184 rfl) rfl rfl ?_
  refine cild2 542 (lI0 185 rfl) rfl rfl ?_
  refine ccst 543 (3) (lI0 186 rfl) rfl (by decide) (fun z542 h542 => ?_)
  refine cadd 544 _ (lI0 187 rfl) rfl rfl (by omega) (by omega) (fun z543 h543 => ?_)
  refine cscl 545 (lI0 188 rfl) rfl (by omega) (by omega) (fun w544 => ?_)
  refine cald 546 (lI0 189 rfl) rfl rfl ?_
  refine ccall (kd := 1) (t := 0) [.ref 0, .int _, .int _, .int _, .ref 83] [] hI.1 (lI0 190 rfl) (Or.inr ⟨_, rfl, rfl, by decide⟩) rfl rfl rfl ⟨rfl, rfl, rfl⟩ rfl rfl rfl (h350 (d := 579) hI (fun r546 hp546 mc ms hI546 hmc hms => Or.inl ⟨_, rfl, ?_⟩))
  refine cistU 551 (lI0 191 rfl) rfl rfl rfl ?_
  refine cald 552 (lI0 192 rfl) rfl rfl ?_
  refine cald 553 (lI0 193 rfl) rfl rfl ?_
  refine cild2 555 (lI0 194 rfl) rfl rfl ?_
  refine ccst 556 (1) (lI0 195 rfl) rfl (by decide) (fun z555 h555 => ?_)
  refine cadd 557 _ (lI0 196 rfl) rfl rfl (by omega) (by omega) (fun z556 h556 => ?_)
  refine cscl 558 (lI0 197 rfl) rfl (by omega) (by omega) (fun w557 => ?_)
  refine cald 559 (lI0 198 rfl) rfl rfl ?_
  refine cild2 561 (lI0 199 rfl) rfl rfl ?_
  refine ccst 562 (2) (lI0 200 rfl) rfl (by decide) (fun z561 h561 => ?_)
  refine cadd 563 _ (lI0 201 rfl) rfl rfl (by omega) (by omega) (fun z562 h562 => ?_)
  refine cscl 564 (lI0 202 rfl) rfl (by omega) (by omega) (fun w563 => ?_)
  refine cald 565 (lI0 203 rfl) rfl rfl ?_
  refine cild2 567 (lI0 204 rfl) rfl rfl ?_
  refine ccst 568 (3) (lI0 205 rfl) rfl (by decide) (fun z567 h567 => ?_)
  refine cadd 569 _ (lI0 206 rfl) rfl rfl (by omega) (by omega) (fun z568 h568 => ?_)
  refine cscl 570 (lI0 207 rfl) rfl (by omega) (by omega) (fun w569 => ?_)
  refine ccall (kd := 0) (t := 0) [.ref 66, .int _, .int _, .int _] [] hI546.1 (lI0 208 rfl) (Or.inl ⟨_, rfl, rfl, by decide, by decide⟩) rfl rfl rfl ⟨rfl, rfl, rfl⟩ rfl (recv66 hI546.1 _) rfl (qI (bQ6_s bf_13 (List.mem_of_getElem? (i := 120) rfl)) rfl hI546 ⟨a66r, ai _, ai _, ai _, trivial⟩ rfl rfl rfl rfl (fun r570 hp570 hI570 => Or.inl ⟨_, rfl, ?_⟩) (fun E _ _ hE => by cases hE))
  refine cistU 575 (lI0 209 rfl) rfl rfl rfl ?_
  refine cgoto (lI0 210 rfl) ?_
  exact cmono (hN hp570 hI570) (fun y hp9 m9 s9 h9 => ⟨h9.1, by have := h9.2.1; omega, by have := h9.2.2; omega⟩)
theorem cs9 {sc : List Int32} {b : Nat} {i : Int32} {hp : amH} (i0 : 0 ≤ i.toInt) (i1 : i.toInt + 6 ≤ (sc.length : Int)) (hL : sc.length ≤ 100000) (hI : lawI hp) (hN : ∀ hp1, lawI hp1 → lV sc b 2256 i hp1) : lV sc (b + 1) 578 i hp := by
  refine cald 579 (lI0 211 rfl) rfl rfl ?_
  refine cald 580 (lI0 212 rfl) rfl rfl ?_
  refine cild2 582 (lI0 213 rfl) rfl rfl ?_
  refine ccst 583 (1) (lI0 214 rfl) rfl (by decide) (fun z582 h582 => ?_)
  refine cadd 584 _ (lI0 215 rfl) rfl rfl (by omega) (by omega) (fun z583 h583 => ?_)
  refine cscl 585 (lI0 216 rfl) rfl (by omega) (by omega) (fun w584 => ?_)
  refine cald 586 (lI0 217 rfl) rfl rfl ?_
  refine cild2 588 (lI0 218 rfl) rfl rfl ?_
  refine ccst 589 (2) (lI0 219 rfl) rfl (by decide) (fun z588 h588 => ?_)
  refine cadd 590 _ (lI0 220 rfl) rfl rfl (by omega) (by omega) (fun z589 h589 => ?_)
  refine cscl 591 (lI0 221 rfl) rfl (by omega) (by omega) (fun w590 => ?_)
  refine cald 592 (lI0 222 rfl) rfl rfl ?_
  refine ccall (kd := 1) (t := 0) [.ref 0, .int _, .int _, .ref 83] [] hI.1 (lI0 223 rfl) (Or.inr ⟨_, rfl, rfl, by decide⟩) rfl rfl rfl ⟨rfl, rfl, rfl⟩ rfl rfl rfl (h351 (d := 579) hI (fun r592 hp592 mc ms hI592 hmc hms => Or.inl ⟨_, rfl, ?_⟩))
  refine cistU 597 (lI0 224 rfl) rfl rfl rfl ?_
  refine cald 598 (lI0 225 rfl) rfl rfl ?_
  refine cald 599 (lI0 226 rfl) rfl rfl ?_
  refine cild2 601 (lI0 227 rfl) rfl rfl ?_
  refine ccst 602 (1) (lI0 228 rfl) rfl (by decide) (fun z601 h601 => ?_)
  refine cadd 603 _ (lI0 229 rfl) rfl rfl (by omega) (by omega) (fun z602 h602 => ?_)
  refine cscl 604 (lI0 230 rfl) rfl (by omega) (by omega) (fun w603 => ?_)
  refine cald 605 (lI0 231 rfl) rfl rfl ?_
  refine cild2 607 (lI0 232 rfl) rfl rfl ?_
  refine ccst 608 (2) (lI0 233 rfl) rfl (by decide) (fun z607 h607 => ?_)
  refine cadd 609 _ (lI0 234 rfl) rfl rfl (by omega) (by omega) (fun z608 h608 => ?_)
  refine cscl 610 (lI0 235 rfl) rfl (by omega) (by omega) (fun w609 => ?_)
  refine ccall (kd := 0) (t := 0) [.ref 66, .int _, .int _] [] hI592.1 (lI0 236 rfl) (Or.inl ⟨_, rfl, rfl, by decide, by decide⟩) rfl rfl rfl ⟨rfl, rfl, rfl⟩ rfl (recv66 hI592.1 _) rfl (qI (bQ6_s bf_14 (List.mem_of_getElem? (i := 119) rfl)) rfl hI592 ⟨a66r, ai _, ai _, trivial⟩ rfl rfl rfl rfl (fun r610 hp610 hI610 => Or.inl ⟨_, rfl, ?_⟩) (fun E _ _ hE => by cases hE))
  refine cistU 615 (lI0 237 rfl) rfl rfl rfl ?_
  refine cgoto (lI0 238 rfl) ?_
  exact cmono (hN hp610 hI610) (fun y hp9 m9 s9 h9 => ⟨h9.1, by have := h9.2.1; omega, by have := h9.2.2; omega⟩)
theorem cs10 {sc : List Int32} {b : Nat} {i : Int32} {hp : amH} (i0 : 0 ≤ i.toInt) (i1 : i.toInt + 6 ≤ (sc.length : Int)) (hL : sc.length ≤ 100000) (hI : lawI hp) (hN : ∀ hp1, lawI hp1 → lV sc b 2256 i hp1) : lV sc (b + 1) 618 i hp := by
  refine cald 619 (lI0 239 rfl) rfl rfl ?_
  refine cald 620 (lI0 240 rfl) rfl rfl ?_
  refine cild2 622 (lI0 241 rfl) rfl rfl ?_
  refine ccst 623 (1) (lI0 242 rfl) rfl (by decide) (fun z622 h622 => ?_)
  refine cadd 624 _ (lI0 243 rfl) rfl rfl (by omega) (by omega) (fun z623 h623 => ?_)
  refine cscl 625 (lI0 244 rfl) rfl (by omega) (by omega) (fun w624 => ?_)
  refine cald 626 (lI0 245 rfl) rfl rfl ?_
  refine ccall (kd := 1) (t := 0) [.ref 0, .int _, .ref 83] [] hI.1 (lI0 246 rfl) (Or.inr ⟨_, rfl, rfl, by decide⟩) rfl rfl rfl ⟨rfl, rfl, rfl⟩ rfl rfl rfl (h352 (d := 579) hI (fun r626 hp626 mc ms hI626 hmc hms => Or.inl ⟨_, rfl, ?_⟩))
  refine cistU 631 (lI0 247 rfl) rfl rfl rfl ?_
  refine cald 632 (lI0 248 rfl) rfl rfl ?_
  refine cald 633 (lI0 249 rfl) rfl rfl ?_
  refine cild2 635 (lI1 0 rfl) rfl rfl ?_
  refine ccst 636 (1) (lI1 1 rfl) rfl (by decide) (fun z635 h635 => ?_)
  refine cadd 637 _ (lI1 2 rfl) rfl rfl (by omega) (by omega) (fun z636 h636 => ?_)
  refine cscl 638 (lI1 3 rfl) rfl (by omega) (by omega) (fun w637 => ?_)
  refine ccall (kd := 0) (t := 0) [.ref 66, .int _] [] hI626.1 (lI1 4 rfl) (Or.inl ⟨_, rfl, rfl, by decide, by decide⟩) rfl rfl rfl ⟨rfl, rfl, rfl⟩ rfl (recv66 hI626.1 _) rfl (qI (bQ6_s bf_15 (List.mem_of_getElem? (i := 118) rfl)) rfl hI626 ⟨a66r, ai _, trivial⟩ rfl rfl rfl rfl (fun r638 hp638 hI638 => Or.inl ⟨_, rfl, ?_⟩) (fun E _ _ hE => by cases hE))
  refine cistU 643 (lI1 5 rfl) rfl rfl rfl ?_
  refine cgoto (lI1 6 rfl) ?_
  exact cmono (hN hp638 hI638) (fun y hp9 m9 s9 h9 => ⟨h9.1, by have := h9.2.1; omega, by have := h9.2.2; omega⟩)
theorem cs11 {sc : List Int32} {b : Nat} {i : Int32} {hp : amH} (i0 : 0 ≤ i.toInt) (i1 : i.toInt + 6 ≤ (sc.length : Int)) (hL : sc.length ≤ 100000) (hI : lawI hp) (hN : ∀ hp1, lawI hp1 → lV sc b 2256 i hp1) : lV sc (b + 1) 646 i hp := by
  refine cald 647 (lI1 7 rfl) rfl rfl ?_
  refine cald 648 (lI1 8 rfl) rfl rfl ?_
  refine cild2 650 (lI1 9 rfl) rfl rfl ?_
  refine ccst 651 (1) (lI1 10 rfl) rfl (by decide) (fun z650 h650 => ?_)
  refine cadd 652 _ (lI1 11 rfl) rfl rfl (by omega) (by omega) (fun z651 h651 => ?_)
  refine cscl 653 (lI1 12 rfl) rfl (by omega) (by omega) (fun w652 => ?_)
  refine cald 654 (lI1 13 rfl) rfl rfl ?_
  refine ccall (kd := 1) (t := 0) [.ref 0, .int _, .ref 83] [] hI.1 (lI1 14 rfl) (Or.inr ⟨_, rfl, rfl, by decide⟩) rfl rfl rfl ⟨rfl, rfl, rfl⟩ rfl rfl rfl (h353 (d := 579) hI (fun r654 hp654 mc ms hI654 hmc hms => Or.inl ⟨_, rfl, ?_⟩))
  refine cistU 659 (lI1 15 rfl) rfl rfl rfl ?_
  refine cald 660 (lI1 16 rfl) rfl rfl ?_
  refine cald 661 (lI1 17 rfl) rfl rfl ?_
  refine cild2 663 (lI1 18 rfl) rfl rfl ?_
  refine ccst 664 (1) (lI1 19 rfl) rfl (by decide) (fun z663 h663 => ?_)
  refine cadd 665 _ (lI1 20 rfl) rfl rfl (by omega) (by omega) (fun z664 h664 => ?_)
  refine cscl 666 (lI1 21 rfl) rfl (by omega) (by omega) (fun w665 => ?_)
  refine ccall (kd := 0) (t := 0) [.ref 66, .int _] [] hI654.1 (lI1 22 rfl) (Or.inl ⟨_, rfl, rfl, by decide, by decide⟩) rfl rfl rfl ⟨rfl, rfl, rfl⟩ rfl (recv66 hI654.1 _) rfl (qI (bQ6_s bf_16 (List.mem_of_getElem? (i := 117) rfl)) rfl hI654 ⟨a66r, ai _, trivial⟩ rfl rfl rfl rfl (fun r666 hp666 hI666 => Or.inl ⟨_, rfl, ?_⟩) (fun E _ _ hE => by cases hE))
  refine cistU 671 (lI1 23 rfl) rfl rfl rfl ?_
  refine cgoto (lI1 24 rfl) ?_
  exact cmono (hN hp666 hI666) (fun y hp9 m9 s9 h9 => ⟨h9.1, by have := h9.2.1; omega, by have := h9.2.2; omega⟩)
theorem cs12 {sc : List Int32} {b : Nat} {i : Int32} {hp : amH} (i0 : 0 ≤ i.toInt) (i1 : i.toInt + 6 ≤ (sc.length : Int)) (hL : sc.length ≤ 100000) (hI : lawI hp) (hN : ∀ hp1, lawI hp1 → lV sc b 2256 i hp1) : lV sc (b + 1) 674 i hp := by
  refine cald 675 (lI1 25 rfl) rfl rfl ?_
  refine cald 676 (lI1 26 rfl) rfl rfl ?_
  refine cild2 678 (lI1 27 rfl) rfl rfl ?_
  refine ccst 679 (1) (lI1 28 rfl) rfl (by decide) (fun z678 h678 => ?_)
  refine cadd 680 _ (lI1 29 rfl) rfl rfl (by omega) (by omega) (fun z679 h679 => ?_)
  refine cscl 681 (lI1 30 rfl) rfl (by omega) (by omega) (fun w680 => ?_)
  refine cald 682 (lI1 31 rfl) rfl rfl ?_
  refine cild2 684 (lI1 32 rfl) rfl rfl ?_
  refine ccst 685 (2) (lI1 33 rfl) rfl (by decide) (fun z684 h684 => ?_)
  refine cadd 686 _ (lI1 34 rfl) rfl rfl (by omega) (by omega) (fun z685 h685 => ?_)
  refine cscl 687 (lI1 35 rfl) rfl (by omega) (by omega) (fun w686 => ?_)
  refine cald 688 (lI1 36 rfl) rfl rfl ?_
  refine cild2 690 (lI1 37 rfl) rfl rfl ?_
  refine ccst 691 (3) (lI1 38 rfl) rfl (by decide) (fun z690 h690 => ?_)
  refine cadd 692 _ (lI1 39 rfl) rfl rfl (by omega) (by omega) (fun z691 h691 => ?_)
  refine cscl 693 (lI1 40 rfl) rfl (by omega) (by omega) (fun w692 => ?_)
  refine cald 694 (lI1 41 rfl) rfl rfl ?_
  refine ccall (kd := 1) (t := 0) [.ref 0, .int _, .int _, .int _, .ref 83] [] hI.1 (lI1 42 rfl) (Or.inr ⟨_, rfl, rfl, by decide⟩) rfl rfl rfl ⟨rfl, rfl, rfl⟩ rfl rfl rfl (h354 (d := 579) hI (fun r694 hp694 mc ms hI694 hmc hms => Or.inl ⟨_, rfl, ?_⟩))
  refine cistU 699 (lI1 43 rfl) rfl rfl rfl ?_
  refine cald 700 (lI1 44 rfl) rfl rfl ?_
  refine cald 701 (lI1 45 rfl) rfl rfl ?_
  refine cild2 703 (lI1 46 rfl) rfl rfl ?_
  refine ccst 704 (1) (lI1 47 rfl) rfl (by decide) (fun z703 h703 => ?_)
  refine cadd 705 _ (lI1 48 rfl) rfl rfl (by omega) (by omega) (fun z704 h704 => ?_)
  refine cscl 706 (lI1 49 rfl) rfl (by omega) (by omega) (fun w705 => ?_)
  refine cald 707 (lI1 50 rfl) rfl rfl ?_
  refine cild2 709 (lI1 51 rfl) rfl rfl ?_
  refine ccst 710 (2) (lI1 52 rfl) rfl (by decide) (fun z709 h709 => ?_)
  refine cadd 711 _ (lI1 53 rfl) rfl rfl (by omega) (by omega) (fun z710 h710 => ?_)
  refine cscl 712 (lI1 54 rfl) rfl (by omega) (by omega) (fun w711 => ?_)
  refine cald 713 (lI1 55 rfl) rfl rfl ?_
  refine cild2 715 (lI1 56 rfl) rfl rfl ?_
  refine ccst 716 (3) (lI1 57 rfl) rfl (by decide) (fun z715 h715 => ?_)
  refine cadd 717 _ (lI1 58 rfl) rfl rfl (by omega) (by omega) (fun z716 h716 => ?_)
  refine cscl 718 (lI1 59 rfl) rfl (by omega) (by omega) (fun w717 => ?_)
  refine ccall (kd := 0) (t := 0) [.ref 66, .int _, .int _, .int _] [] hI694.1 (lI1 60 rfl) (Or.inl ⟨_, rfl, rfl, by decide, by decide⟩) rfl rfl rfl ⟨rfl, rfl, rfl⟩ rfl (recv66 hI694.1 _) rfl (qI (bQ6_s bf_17 (List.mem_of_getElem? (i := 116) rfl)) rfl hI694 ⟨a66r, ai _, ai _, ai _, trivial⟩ rfl rfl rfl rfl (fun r718 hp718 hI718 => Or.inl ⟨_, rfl, ?_⟩) (fun E _ _ hE => by cases hE))
  refine cistU 723 (lI1 61 rfl) rfl rfl rfl ?_
  refine cgoto (lI1 62 rfl) ?_
  exact cmono (hN hp718 hI718) (fun y hp9 m9 s9 h9 => ⟨h9.1, by have := h9.2.1; omega, by have := h9.2.2; omega⟩)
theorem cs13 {sc : List Int32} {b : Nat} {i : Int32} {hp : amH} (i0 : 0 ≤ i.toInt) (i1 : i.toInt + 6 ≤ (sc.length : Int)) (hL : sc.length ≤ 100000) (hI : lawI hp) (hN : ∀ hp1, lawI hp1 → lV sc b 2256 i hp1) : lV sc (b + 1) 726 i hp := by
  refine cald 727 (lI1 63 rfl) rfl rfl ?_
  refine cald 728 (lI1 64 rfl) rfl rfl ?_
  refine cild2 730 (lI1 65 rfl) rfl rfl ?_
  refine ccst 731 (1) (lI1 66 rfl) rfl (by decide) (fun z730 h730 => ?_)
  refine cadd 732 _ (lI1 67 rfl) rfl rfl (by omega) (by omega) (fun z731 h731 => ?_)
  refine cscl 733 (lI1 68 rfl) rfl (by omega) (by omega) (fun w732 => ?_)
  refine cald 734 (lI1 69 rfl) rfl rfl ?_
  refine cild2 736 (lI1 70 rfl) rfl rfl ?_
  refine ccst 737 (2) (lI1 71 rfl) rfl (by decide) (fun z736 h736 => ?_)
  refine cadd 738 _ (lI1 72 rfl) rfl rfl (by omega) (by omega) (fun z737 h737 => ?_)
  refine cscl 739 (lI1 73 rfl) rfl (by omega) (by omega) (fun w738 => ?_)
  refine cald 740 (lI1 74 rfl) rfl rfl ?_
  refine cild2 742 (lI1 75 rfl) rfl rfl ?_
  refine ccst 743 (3) (lI1 76 rfl) rfl (by decide) (fun z742 h742 => ?_)
  refine cadd 744 _ (lI1 77 rfl) rfl rfl (by omega) (by omega) (fun z743 h743 => ?_)
  refine cscl 745 (lI1 78 rfl) rfl (by omega) (by omega) (fun w744 => ?_)
  refine cald 746 (lI1 79 rfl) rfl rfl ?_
  refine ccall (kd := 1) (t := 0) [.ref 0, .int _, .int _, .int _, .ref 83] [] hI.1 (lI1 80 rfl) (Or.inr ⟨_, rfl, rfl, by decide⟩) rfl rfl rfl ⟨rfl, rfl, rfl⟩ rfl rfl rfl (h355 (d := 579) hI (fun r746 hp746 mc ms hI746 hmc hms => Or.inl ⟨_, rfl, ?_⟩))
  refine cistU 751 (lI1 81 rfl) rfl rfl rfl ?_
  refine cald 752 (lI1 82 rfl) rfl rfl ?_
  refine cald 753 (lI1 83 rfl) rfl rfl ?_
  refine cild2 755 (lI1 84 rfl) rfl rfl ?_
  refine ccst 756 (1) (lI1 85 rfl) rfl (by decide) (fun z755 h755 => ?_)
  refine cadd 757 _ (lI1 86 rfl) rfl rfl (by omega) (by omega) (fun z756 h756 => ?_)
  refine cscl 758 (lI1 87 rfl) rfl (by omega) (by omega) (fun w757 => ?_)
  refine cald 759 (lI1 88 rfl) rfl rfl ?_
  refine cild2 761 (lI1 89 rfl) rfl rfl ?_
  refine ccst 762 (2) (lI1 90 rfl) rfl (by decide) (fun z761 h761 => ?_)
  refine cadd 763 _ (lI1 91 rfl) rfl rfl (by omega) (by omega) (fun z762 h762 => ?_)
  refine cscl 764 (lI1 92 rfl) rfl (by omega) (by omega) (fun w763 => ?_)
  refine cald 765 (lI1 93 rfl) rfl rfl ?_
  refine cild2 767 (lI1 94 rfl) rfl rfl ?_
  refine ccst 768 (3) (lI1 95 rfl) rfl (by decide) (fun z767 h767 => ?_)
  refine cadd 769 _ (lI1 96 rfl) rfl rfl (by omega) (by omega) (fun z768 h768 => ?_)
  refine cscl 770 (lI1 97 rfl) rfl (by omega) (by omega) (fun w769 => ?_)
  refine ccall (kd := 0) (t := 0) [.ref 66, .int _, .int _, .int _] [] hI746.1 (lI1 98 rfl) (Or.inl ⟨_, rfl, rfl, by decide, by decide⟩) rfl rfl rfl ⟨rfl, rfl, rfl⟩ rfl (recv66 hI746.1 _) rfl (qI p272_s rfl hI746 ⟨a66r, ai _, ai _, ai _, trivial⟩ rfl rfl rfl rfl (fun r770 hp770 hI770 => Or.inl ⟨_, rfl, ?_⟩) (fun E _ _ hE => by cases hE))
  refine cistU 775 (lI1 99 rfl) rfl rfl rfl ?_
  refine cgoto (lI1 100 rfl) ?_
  exact cmono (hN hp770 hI770) (fun y hp9 m9 s9 h9 => ⟨h9.1, by have := h9.2.1; omega, by have := h9.2.2; omega⟩)
