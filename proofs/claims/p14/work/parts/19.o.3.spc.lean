/-! ===== the queries of which the reference writes its row ===== -/
theorem cs17J {sc : List Int32} {b : Nat} {i : Int32} {hp : amH} (i0 : 0 ≤ i.toInt) (i1 : i.toInt + 6 ≤ (sc.length : Int)) (hL : sc.length ≤ 100000) (hI : lawJ hp) (hN : ∀ hp1, lawJ hp1 → lV sc b 2284 i hp1) : lV sc (b + 1) 899 i hp := by
  refine cald 900 (lI1 181 rfl) rfl rfl ?_
  refine ccall (kd := 0) (t := 0) [.ref 0] [] hI.1.1 (lI1 182 rfl) (Or.inl ⟨_, rfl, rfl, by decide, by decide⟩) rfl rfl rfl ⟨rfl, rfl, rfl⟩ rfl (recv0 hI.1.1 _) rfl (qIJ (bL8_s be_67 (List.mem_of_getElem? (i := 129) rfl)) rfl hI ⟨a0r, trivial⟩ rfl rfl rfl (fun r900 hp900 hI900 => Or.inl ⟨_, rfl, ?_⟩) (fun E _ _ hE => by cases hE))
  refine cpop 904 (lI1 183 rfl) rfl rfl ?_
  refine cald 905 (lI1 184 rfl) rfl rfl ?_
  obtain ⟨⟨V, T, ty⟩, n, h, sv, c, r⟩ := hI900.2
  refine ccall (kd := 0) (t := 0) [.ref 66] [] hI900.1.1 (lI1 185 rfl) (Or.inl ⟨_, rfl, rfl, by decide, by decide⟩) rfl rfl rfl ⟨rfl, rfl, rfl⟩ rfl (recv66 hI900.1.1 _) rfl (qK (Φ := fun _ hp2 => bHk 84 bTT hp2 ∧ P0 hp2 ∧ bFr wM hp900 hp2 ∧ stS hp2) (fun R hR => xK_deep (k_285J hI900.1.1 hI900.1.2.1 r (fun z hp2 a1 a2 a3 a4 => hR z hp2 ⟨a1, a2, a3, ⟨_, _, _, _, wM_cl a3 c, a4⟩⟩)) (by decide)) (fun r2 hp2 g2 => Or.inl ⟨_, rfl, ?_⟩))
  refine cpop 909 (lI1 186 rfl) rfl rfl ?_
  refine cgoto (lI1 187 rfl) ?_
  exact cmono (hN hp2 ⟨law_rf hI900.1 g2.1 g2.2.1 g2.2.2.1, g2.2.2.2⟩) (fun y hp9 m9 s9 h9 => ⟨h9.1, by have := h9.2.1; omega, by have := h9.2.2; omega⟩)
theorem cs24J {sc : List Int32} {b : Nat} {i : Int32} {hp : amH} (i0 : 0 ≤ i.toInt) (i1 : i.toInt + 6 ≤ (sc.length : Int)) (hL : sc.length ≤ 100000) (hI : lawJ hp) (hN : ∀ hp1, lawJ hp1 → lV sc b 2284 i hp1) : lV sc (b + 1) 1089 i hp := by
  refine cald 1090 (lI2 55 rfl) rfl rfl ?_
  refine cald 1091 (lI2 56 rfl) rfl rfl ?_
  refine cild2 1093 (lI2 57 rfl) rfl rfl ?_
  refine ccst 1094 (1) (lI2 58 rfl) rfl (by decide) (fun z1093 h1093 => ?_)
  refine cadd 1095 _ (lI2 59 rfl) rfl rfl (by omega) (by omega) (fun z1094 h1094 => ?_)
  refine cscl 1096 (lI2 60 rfl) rfl (by omega) (by omega) (fun w1095 => ?_)
  refine cald 1097 (lI2 61 rfl) rfl rfl ?_
  refine ccall (kd := 1) (t := 0) [.ref 0, .int _, .ref 83] [] hI.1.1 (lI2 62 rfl) (Or.inr ⟨_, rfl, rfl, by decide⟩) rfl rfl rfl ⟨rfl, rfl, rfl⟩ rfl rfl rfl (h363J (d := 579) hI (fun r1097 hp1097 mc ms hI1097 hmc hms => Or.inl ⟨_, rfl, ?_⟩))
  refine cistU 1102 (lI2 63 rfl) rfl rfl rfl ?_
  refine cald 1103 (lI2 64 rfl) rfl rfl ?_
  refine cald 1104 (lI2 65 rfl) rfl rfl ?_
  refine cild2 1106 (lI2 66 rfl) rfl rfl ?_
  refine ccst 1107 (1) (lI2 67 rfl) rfl (by decide) (fun z1106 h1106 => ?_)
  refine cadd 1108 _ (lI2 68 rfl) rfl rfl (by omega) (by omega) (fun z1107 h1107 => ?_)
  refine cscl 1109 (lI2 69 rfl) rfl (by omega) (by omega) (fun w1108 => ?_)
  obtain ⟨⟨V, T, ty⟩, n, h, sv, c, r⟩ := hI1097.2
  refine ccall (kd := 0) (t := 0) [.ref 66, .int _] [] hI1097.1.1 (lI2 70 rfl) (Or.inl ⟨_, rfl, rfl, by decide, by decide⟩) rfl rfl rfl ⟨rfl, rfl, rfl⟩ rfl (recv66 hI1097.1.1 _) rfl (qK (Φ := fun _ hp2 => bHk 84 bTT hp2 ∧ P0 hp2 ∧ bFr wM hp1097 hp2 ∧ stS hp2) (fun R hR => k_293E (d := 593) hI1097.1.1 hI1097.1.2.1 r (fun z hp2 a1 a2 a3 a4 a5 _ => hR z hp2 ⟨a1, a2, a3, ⟨_, _, _, _, wM_cl a3 c, a5⟩⟩)) (fun r2 hp2 g2 => Or.inl ⟨_, rfl, ?_⟩))
  refine cistU 1114 (lI2 71 rfl) rfl rfl rfl ?_
  refine cgoto (lI2 72 rfl) ?_
  exact cmono (hN hp2 ⟨law_rf hI1097.1 g2.1 g2.2.1 g2.2.2.1, g2.2.2.2⟩) (fun y hp9 m9 s9 h9 => ⟨h9.1, by have := h9.2.1; omega, by have := h9.2.2; omega⟩)
/-! ===== the law's cases (i) ===== -/
theorem cs31J {sc : List Int32} {b : Nat} {i : Int32} {hp : amH} (i0 : 0 ≤ i.toInt) (i1 : i.toInt + 6 ≤ (sc.length : Int)) (hL : sc.length ≤ 100000) (hI : lawJ hp) (hN : ∀ hp1, lawJ hp1 → lV sc b 2284 i hp1) : lV sc (b + 1) 1394 i hp := by
  refine cald 1395 (lI3 18 rfl) rfl rfl ?_
  refine cald 1396 (lI3 19 rfl) rfl rfl ?_
  refine cild2 1398 (lI3 20 rfl) rfl rfl ?_
  refine ccst 1399 (1) (lI3 21 rfl) rfl (by decide) (fun z1398 h1398 => ?_)
  refine cadd 1400 _ (lI3 22 rfl) rfl rfl (by omega) (by omega) (fun z1399 h1399 => ?_)
  refine cscl 1401 (lI3 23 rfl) rfl (by omega) (by omega) (fun w1400 => ?_)
  refine cald 1402 (lI3 24 rfl) rfl rfl ?_
  refine cild2 1404 (lI3 25 rfl) rfl rfl ?_
  refine ccst 1405 (2) (lI3 26 rfl) rfl (by decide) (fun z1404 h1404 => ?_)
  refine cadd 1406 _ (lI3 27 rfl) rfl rfl (by omega) (by omega) (fun z1405 h1405 => ?_)
  refine cscl 1407 (lI3 28 rfl) rfl (by omega) (by omega) (fun w1406 => ?_)
  refine cald 1408 (lI3 29 rfl) rfl rfl ?_
  refine cild2 1410 (lI3 30 rfl) rfl rfl ?_
  refine ccst 1411 (3) (lI3 31 rfl) rfl (by decide) (fun z1410 h1410 => ?_)
  refine cadd 1412 _ (lI3 32 rfl) rfl rfl (by omega) (by omega) (fun z1411 h1411 => ?_)
  refine cscl 1413 (lI3 33 rfl) rfl (by omega) (by omega) (fun w1412 => ?_)
  refine cald 1414 (lI3 34 rfl) rfl rfl ?_
  refine ccall (kd := 1) (t := 0) [.ref 0, .int _, .int _, .int _, .ref 83] [] hI.1.1 (lI3 35 rfl) (Or.inr ⟨_, rfl, rfl, by decide⟩) rfl rfl rfl ⟨rfl, rfl, rfl⟩ rfl rfl rfl (h369J (d := 579) hI (fun r1414 hp1414 mc ms hI1414 hmc hms => Or.inl ⟨_, rfl, ?_⟩))
  refine cistU 1419 (lI3 36 rfl) rfl rfl rfl ?_
  refine cald 1420 (lI3 37 rfl) rfl rfl ?_
  refine cald 1421 (lI3 38 rfl) rfl rfl ?_
  refine cild2 1423 (lI3 39 rfl) rfl rfl ?_
  refine ccst 1424 (1) (lI3 40 rfl) rfl (by decide) (fun z1423 h1423 => ?_)
  refine cadd 1425 _ (lI3 41 rfl) rfl rfl (by omega) (by omega) (fun z1424 h1424 => ?_)
  refine cscl 1426 (lI3 42 rfl) rfl (by omega) (by omega) (fun w1425 => ?_)
  refine cald 1427 (lI3 43 rfl) rfl rfl ?_
  refine cild2 1429 (lI3 44 rfl) rfl rfl ?_
  refine ccst 1430 (2) (lI3 45 rfl) rfl (by decide) (fun z1429 h1429 => ?_)
  refine cadd 1431 _ (lI3 46 rfl) rfl rfl (by omega) (by omega) (fun z1430 h1430 => ?_)
  refine cscl 1432 (lI3 47 rfl) rfl (by omega) (by omega) (fun w1431 => ?_)
  refine cald 1433 (lI3 48 rfl) rfl rfl ?_
  refine cild2 1435 (lI3 49 rfl) rfl rfl ?_
  refine ccst 1436 (3) (lI3 50 rfl) rfl (by decide) (fun z1435 h1435 => ?_)
  refine cadd 1437 _ (lI3 51 rfl) rfl rfl (by omega) (by omega) (fun z1436 h1436 => ?_)
  refine cscl 1438 (lI3 52 rfl) rfl (by omega) (by omega) (fun w1437 => ?_)
  obtain ⟨⟨V, T, ty⟩, n, h, sv, c, r⟩ := hI1414.2
  refine ccall (kd := 0) (t := 0) [.ref 66, .int _, .int _, .int _] [] hI1414.1.1 (lI3 53 rfl) (Or.inl ⟨_, rfl, rfl, by decide, by decide⟩) rfl rfl rfl ⟨rfl, rfl, rfl⟩ rfl (recv66 hI1414.1.1 _) rfl (qK (Φ := fun _ hp2 => bHk 84 bTT hp2 ∧ P0 hp2 ∧ bFr wM hp1414 hp2 ∧ stS hp2) (fun R hR => k_301E (d := 593) hI1414.1.1 hI1414.1.2.1 r (fun z hp2 a1 a2 a3 a4 a5 _ => hR z hp2 ⟨a1, a2, a3, ⟨_, _, _, _, wM_cl a3 c, a5⟩⟩)) (fun r2 hp2 g2 => Or.inl ⟨_, rfl, ?_⟩))
  refine cistU 1443 (lI3 54 rfl) rfl rfl rfl ?_
  refine cgoto (lI3 55 rfl) ?_
  exact cmono (hN hp2 ⟨law_rf hI1414.1 g2.1 g2.2.1 g2.2.2.1, g2.2.2.2⟩) (fun y hp9 m9 s9 h9 => ⟨h9.1, by have := h9.2.1; omega, by have := h9.2.2; omega⟩)
theorem cs25J {sc : List Int32} {b : Nat} {i : Int32} {hp : amH} (i0 : 0 ≤ i.toInt) (i1 : i.toInt + 6 ≤ (sc.length : Int)) (hL : sc.length ≤ 100000) (hI : lawJ hp) (hN : ∀ hp1, lawJ hp1 → lV sc b 2284 i hp1) : lV sc (b + 1) 1117 i hp := by
  refine cald 1118 (lI2 73 rfl) rfl rfl ?_
  refine cald 1119 (lI2 74 rfl) rfl rfl ?_
  refine cild2 1121 (lI2 75 rfl) rfl rfl ?_
  refine ccst 1122 (1) (lI2 76 rfl) rfl (by decide) (fun z1121 h1121 => ?_)
  refine cadd 1123 _ (lI2 77 rfl) rfl rfl (by omega) (by omega) (fun z1122 h1122 => ?_)
  refine cscl 1124 (lI2 78 rfl) rfl (by omega) (by omega) (fun w1123 => ?_)
  refine cif 1127 (lI2 79 rfl) rfl ?_ ?_
  · refine ccst 1132 (0) (lI2 82 rfl) rfl (by decide) (fun z1131 h1131 => ?_)
    refine ccall (kd := 0) (t := 0) [.ref 0, .int _] [] hI.1.1 (lI2 83 rfl) (Or.inl ⟨_, rfl, rfl, by decide, by decide⟩) rfl rfl rfl ⟨rfl, rfl, rfl⟩ rfl (recv0 hI.1.1 _) rfl (qIJ (bL8_s be_90 (List.mem_of_getElem? (i := 106) rfl)) rfl hI ⟨a0r, aB (by omega), trivial⟩ rfl rfl rfl (fun r1132 hp1132 hI1132 => Or.inl ⟨_, rfl, ?_⟩) (fun E _ _ hE => by cases hE))
    refine cpop 1136 (lI2 84 rfl) rfl rfl ?_
    refine cald 1137 (lI2 85 rfl) rfl rfl ?_
    refine cald 1138 (lI2 86 rfl) rfl rfl ?_
    refine cild2 1140 (lI2 87 rfl) rfl rfl ?_
    refine ccst 1141 (1) (lI2 88 rfl) rfl (by decide) (fun z1140 h1140 => ?_)
    refine cadd 1142 _ (lI2 89 rfl) rfl rfl (by omega) (by omega) (fun z1141 h1141 => ?_)
    refine cscl 1143 (lI2 90 rfl) rfl (by omega) (by omega) (fun w1142 => ?_)
    refine cif 1146 (lI2 91 rfl) rfl ?_ ?_
    · refine ccst 1151 (0) (lI2 94 rfl) rfl (by decide) (fun z1150 h1150 => ?_)
      obtain ⟨⟨V, T, ty⟩, n, h, sv, c, r⟩ := hI1132.2
      refine ccall (kd := 0) (t := 0) [.ref 66, .int _] [] hI1132.1.1 (lI2 95 rfl) (Or.inl ⟨_, rfl, rfl, by decide, by decide⟩) rfl rfl rfl ⟨rfl, rfl, rfl⟩ rfl (recv66 hI1132.1.1 _) rfl (qK (Φ := fun _ hp2 => bHk 84 bTT hp2 ∧ P0 hp2 ∧ bFr wM hp1132 hp2 ∧ stS hp2) (fun R hR => k_294E (d := 593) (most := decide (¬ Int32.toInt _ = 0)) decide_eq_true_iff hI1132.1.1 hI1132.1.2.1 r (fun z hp2 a1 a2 a3 a4 _ => hR z hp2 ⟨a1, a2, a3, ⟨_, _, _, _, wM_cl a3 c, a4⟩⟩)) (fun r2 hp2 g2 => Or.inl ⟨_, rfl, ?_⟩))
      refine cpop 1155 (lI2 96 rfl) rfl rfl ?_
      refine cgoto (lI2 97 rfl) ?_
      exact cmono (hN hp2 ⟨law_rf hI1132.1 g2.1 g2.2.1 g2.2.2.1, g2.2.2.2⟩) (fun y hp9 m9 s9 h9 => ⟨h9.1, by have := h9.2.1; omega, by have := h9.2.2; omega⟩)
    · refine ccst 1147 (1) (lI2 92 rfl) rfl (by decide) (fun z1146 h1146 => ?_)
      refine cgoto (lI2 93 rfl) ?_
      obtain ⟨⟨V, T, ty⟩, n, h, sv, c, r⟩ := hI1132.2
      refine ccall (kd := 0) (t := 0) [.ref 66, .int _] [] hI1132.1.1 (lI2 95 rfl) (Or.inl ⟨_, rfl, rfl, by decide, by decide⟩) rfl rfl rfl ⟨rfl, rfl, rfl⟩ rfl (recv66 hI1132.1.1 _) rfl (qK (Φ := fun _ hp2 => bHk 84 bTT hp2 ∧ P0 hp2 ∧ bFr wM hp1132 hp2 ∧ stS hp2) (fun R hR => k_294E (d := 593) (most := decide (¬ Int32.toInt _ = 0)) decide_eq_true_iff hI1132.1.1 hI1132.1.2.1 r (fun z hp2 a1 a2 a3 a4 _ => hR z hp2 ⟨a1, a2, a3, ⟨_, _, _, _, wM_cl a3 c, a4⟩⟩)) (fun r2 hp2 g2 => Or.inl ⟨_, rfl, ?_⟩))
      refine cpop 1155 (lI2 96 rfl) rfl rfl ?_
      refine cgoto (lI2 97 rfl) ?_
      exact cmono (hN hp2 ⟨law_rf hI1132.1 g2.1 g2.2.1 g2.2.2.1, g2.2.2.2⟩) (fun y hp9 m9 s9 h9 => ⟨h9.1, by have := h9.2.1; omega, by have := h9.2.2; omega⟩)
  · refine ccst 1128 (1) (lI2 80 rfl) rfl (by decide) (fun z1127 h1127 => ?_)
    refine cgoto (lI2 81 rfl) ?_
    refine ccall (kd := 0) (t := 0) [.ref 0, .int _] [] hI.1.1 (lI2 83 rfl) (Or.inl ⟨_, rfl, rfl, by decide, by decide⟩) rfl rfl rfl ⟨rfl, rfl, rfl⟩ rfl (recv0 hI.1.1 _) rfl (qIJ (bL8_s be_90 (List.mem_of_getElem? (i := 106) rfl)) rfl hI ⟨a0r, aB (by omega), trivial⟩ rfl rfl rfl (fun r1132 hp1132 hI1132 => Or.inl ⟨_, rfl, ?_⟩) (fun E _ _ hE => by cases hE))
    refine cpop 1136 (lI2 84 rfl) rfl rfl ?_
    refine cald 1137 (lI2 85 rfl) rfl rfl ?_
    refine cald 1138 (lI2 86 rfl) rfl rfl ?_
    refine cild2 1140 (lI2 87 rfl) rfl rfl ?_
    refine ccst 1141 (1) (lI2 88 rfl) rfl (by decide) (fun z1140 h1140 => ?_)
    refine cadd 1142 _ (lI2 89 rfl) rfl rfl (by omega) (by omega) (fun z1141 h1141 => ?_)
    refine cscl 1143 (lI2 90 rfl) rfl (by omega) (by omega) (fun w1142 => ?_)
    refine cif 1146 (lI2 91 rfl) rfl ?_ ?_
    · refine ccst 1151 (0) (lI2 94 rfl) rfl (by decide) (fun z1150 h1150 => ?_)
      obtain ⟨⟨V, T, ty⟩, n, h, sv, c, r⟩ := hI1132.2
      refine ccall (kd := 0) (t := 0) [.ref 66, .int _] [] hI1132.1.1 (lI2 95 rfl) (Or.inl ⟨_, rfl, rfl, by decide, by decide⟩) rfl rfl rfl ⟨rfl, rfl, rfl⟩ rfl (recv66 hI1132.1.1 _) rfl (qK (Φ := fun _ hp2 => bHk 84 bTT hp2 ∧ P0 hp2 ∧ bFr wM hp1132 hp2 ∧ stS hp2) (fun R hR => k_294E (d := 593) (most := decide (¬ Int32.toInt _ = 0)) decide_eq_true_iff hI1132.1.1 hI1132.1.2.1 r (fun z hp2 a1 a2 a3 a4 _ => hR z hp2 ⟨a1, a2, a3, ⟨_, _, _, _, wM_cl a3 c, a4⟩⟩)) (fun r2 hp2 g2 => Or.inl ⟨_, rfl, ?_⟩))
      refine cpop 1155 (lI2 96 rfl) rfl rfl ?_
      refine cgoto (lI2 97 rfl) ?_
      exact cmono (hN hp2 ⟨law_rf hI1132.1 g2.1 g2.2.1 g2.2.2.1, g2.2.2.2⟩) (fun y hp9 m9 s9 h9 => ⟨h9.1, by have := h9.2.1; omega, by have := h9.2.2; omega⟩)
    · refine ccst 1147 (1) (lI2 92 rfl) rfl (by decide) (fun z1146 h1146 => ?_)
      refine cgoto (lI2 93 rfl) ?_
      obtain ⟨⟨V, T, ty⟩, n, h, sv, c, r⟩ := hI1132.2
      refine ccall (kd := 0) (t := 0) [.ref 66, .int _] [] hI1132.1.1 (lI2 95 rfl) (Or.inl ⟨_, rfl, rfl, by decide, by decide⟩) rfl rfl rfl ⟨rfl, rfl, rfl⟩ rfl (recv66 hI1132.1.1 _) rfl (qK (Φ := fun _ hp2 => bHk 84 bTT hp2 ∧ P0 hp2 ∧ bFr wM hp1132 hp2 ∧ stS hp2) (fun R hR => k_294E (d := 593) (most := decide (¬ Int32.toInt _ = 0)) decide_eq_true_iff hI1132.1.1 hI1132.1.2.1 r (fun z hp2 a1 a2 a3 a4 _ => hR z hp2 ⟨a1, a2, a3, ⟨_, _, _, _, wM_cl a3 c, a4⟩⟩)) (fun r2 hp2 g2 => Or.inl ⟨_, rfl, ?_⟩))
      refine cpop 1155 (lI2 96 rfl) rfl rfl ?_
      refine cgoto (lI2 97 rfl) ?_
      exact cmono (hN hp2 ⟨law_rf hI1132.1 g2.1 g2.2.1 g2.2.2.1, g2.2.2.2⟩) (fun y hp9 m9 s9 h9 => ⟨h9.1, by have := h9.2.1; omega, by have := h9.2.2; omega⟩)
