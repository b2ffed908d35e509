/-! ===== the queries of which the reference writes its row ===== -/
theorem cs17J {sc : List Int32} {b : Nat} {i : Int32} {hp : amH} (i0 : 0 ≤ i.toInt) (i1 : i.toInt + 6 ≤ (sc.length : Int)) (hL : sc.length ≤ 100000) (hI : lawJ hp) (hN : ∀ hp1, lawJ hp1 → lV sc b 2256 i hp1) : lV sc (b + 1) 871 i hp := by
  refine cald 872 (lI1 164 rfl) rfl rfl ?_
  refine ccall (kd := 0) (t := 0) [.ref 0] [] hI.1.1 (lI1 165 rfl) (Or.inl ⟨_, rfl, rfl, by decide, by decide⟩) rfl rfl rfl ⟨rfl, rfl, rfl⟩ rfl (recv0 hI.1.1 _) rfl (qIJ (bL8_s be_67 (List.mem_of_getElem? (i := 129) rfl)) rfl hI ⟨a0r, trivial⟩ rfl rfl rfl (fun r872 hp872 hI872 => Or.inl ⟨_, rfl, ?_⟩) (fun E _ _ hE => by cases hE))
  refine cpop 876 (lI1 166 rfl) rfl rfl ?_
  refine cald 877 (lI1 167 rfl) rfl rfl ?_
  obtain ⟨⟨V, T, ty⟩, n, h, sv, c, r⟩ := hI872.2
  refine ccall (kd := 0) (t := 0) [.ref 66] [] hI872.1.1 (lI1 168 rfl) (Or.inl ⟨_, rfl, rfl, by decide, by decide⟩) rfl rfl rfl ⟨rfl, rfl, rfl⟩ rfl (recv66 hI872.1.1 _) rfl (qK (Φ := fun _ hp2 => bHk 84 bTT hp2 ∧ P0 hp2 ∧ bFr wM hp872 hp2 ∧ stS hp2) (fun R hR => xK_deep (k_285J hI872.1.1 hI872.1.2.1 r (fun z hp2 a1 a2 a3 a4 => hR z hp2 ⟨a1, a2, a3, ⟨_, _, _, _, wM_cl a3 c, a4⟩⟩)) (by decide)) (fun r2 hp2 g2 => Or.inl ⟨_, rfl, ?_⟩))
  refine cpop 881 (lI1 169 rfl) rfl rfl ?_
  refine cgoto (lI1 170 rfl) ?_
  exact cmono (hN hp2 ⟨law_rf hI872.1 g2.1 g2.2.1 g2.2.2.1, g2.2.2.2⟩) (fun y hp9 m9 s9 h9 => ⟨h9.1, by have := h9.2.1; omega, by have := h9.2.2; omega⟩)
theorem cs24J {sc : List Int32} {b : Nat} {i : Int32} {hp : amH} (i0 : 0 ≤ i.toInt) (i1 : i.toInt + 6 ≤ (sc.length : Int)) (hL : sc.length ≤ 100000) (hI : lawJ hp) (hN : ∀ hp1, lawJ hp1 → lV sc b 2256 i hp1) : lV sc (b + 1) 1061 i hp := by
  refine cald 1062 (lI2 38 rfl) rfl rfl ?_
  refine cald 1063 (lI2 39 rfl) rfl rfl ?_
  refine cild2 1065 (lI2 40 rfl) rfl rfl ?_
  refine ccst 1066 (1) (lI2 41 rfl) rfl (by decide) (fun z1065 h1065 => ?_)
  refine cadd 1067 _ (lI2 42 rfl) rfl rfl (by omega) (by omega) (fun z1066 h1066 => ?_)
  refine cscl 1068 (lI2 43 rfl) rfl (by omega) (by omega) (fun w1067 => ?_)
  refine cald 1069 (lI2 44 rfl) rfl rfl ?_
  refine ccall (kd := 1) (t := 0) [.ref 0, .int _, .ref 83] [] hI.1.1 (lI2 45 rfl) (Or.inr ⟨_, rfl, rfl, by decide⟩) rfl rfl rfl ⟨rfl, rfl, rfl⟩ rfl rfl rfl (h363J (d := 579) hI (fun r1069 hp1069 mc ms hI1069 hmc hms => Or.inl ⟨_, rfl, ?_⟩))
  refine cistU 1074 (lI2 46 rfl) rfl rfl rfl ?_
  refine cald 1075 (lI2 47 rfl) rfl rfl ?_
  refine cald 1076 (lI2 48 rfl) rfl rfl ?_
  refine cild2 1078 (lI2 49 rfl) rfl rfl ?_
  refine ccst 1079 (1) (lI2 50 rfl) rfl (by decide) (fun z1078 h1078 => ?_)
  refine cadd 1080 _ (lI2 51 rfl) rfl rfl (by omega) (by omega) (fun z1079 h1079 => ?_)
  refine cscl 1081 (lI2 52 rfl) rfl (by omega) (by omega) (fun w1080 => ?_)
  obtain ⟨⟨V, T, ty⟩, n, h, sv, c, r⟩ := hI1069.2
  refine ccall (kd := 0) (t := 0) [.ref 66, .int _] [] hI1069.1.1 (lI2 53 rfl) (Or.inl ⟨_, rfl, rfl, by decide, by decide⟩) rfl rfl rfl ⟨rfl, rfl, rfl⟩ rfl (recv66 hI1069.1.1 _) rfl (qK (Φ := fun _ hp2 => bHk 84 bTT hp2 ∧ P0 hp2 ∧ bFr wM hp1069 hp2 ∧ stS hp2) (fun R hR => k_293E (d := 593) hI1069.1.1 hI1069.1.2.1 r (fun z hp2 a1 a2 a3 a4 a5 _ => hR z hp2 ⟨a1, a2, a3, ⟨_, _, _, _, wM_cl a3 c, a5⟩⟩)) (fun r2 hp2 g2 => Or.inl ⟨_, rfl, ?_⟩))
  refine cistU 1086 (lI2 54 rfl) rfl rfl rfl ?_
  refine cgoto (lI2 55 rfl) ?_
  exact cmono (hN hp2 ⟨law_rf hI1069.1 g2.1 g2.2.1 g2.2.2.1, g2.2.2.2⟩) (fun y hp9 m9 s9 h9 => ⟨h9.1, by have := h9.2.1; omega, by have := h9.2.2; omega⟩)
/-! ===== the law's cases (i) ===== -/
theorem cs31J {sc : List Int32} {b : Nat} {i : Int32} {hp : amH} (i0 : 0 ≤ i.toInt) (i1 : i.toInt + 6 ≤ (sc.length : Int)) (hL : sc.length ≤ 100000) (hI : lawJ hp) (hN : ∀ hp1, lawJ hp1 → lV sc b 2256 i hp1) : lV sc (b + 1) 1366 i hp := by
  refine cald 1367 (lI3 1 rfl) rfl rfl ?_
  refine cald 1368 (lI3 2 rfl) rfl rfl ?_
  refine cild2 1370 (lI3 3 rfl) rfl rfl ?_
  refine ccst 1371 (1) (lI3 4 rfl) rfl (by decide) (fun z1370 h1370 => ?_)
  refine cadd 1372 _ (lI3 5 rfl) rfl rfl (by omega) (by omega) (fun z1371 h1371 => ?_)
  refine cscl 1373 (lI3 6 rfl) rfl (by omega) (by omega) (fun w1372 => ?_)
  refine cald 1374 (lI3 7 rfl) rfl rfl ?_
  refine cild2 1376 (lI3 8 rfl) rfl rfl ?_
  refine ccst 1377 (2) (lI3 9 rfl) rfl (by decide) (fun z1376 h1376 => ?_)
  refine cadd 1378 _ (lI3 10 rfl) rfl rfl (by omega) (by omega) (fun z1377 h1377 => ?_)
  refine cscl 1379 (lI3 11 rfl) rfl (by omega) (by omega) (fun w1378 => ?_)
  refine cald 1380 (lI3 12 rfl) rfl rfl ?_
  refine cild2 1382 (lI3 13 rfl) rfl rfl ?_
  refine ccst 1383 (3) (lI3 14 rfl) rfl (by decide) (fun z1382 h1382 => ?_)
  refine cadd 1384 _ (lI3 15 rfl) rfl rfl (by omega) (by omega) (fun z1383 h1383 => ?_)
  refine cscl 1385 (lI3 16 rfl) rfl (by omega) (by omega) (fun w1384 => ?_)
  refine cald 1386 (lI3 17 rfl) rfl rfl ?_
  refine ccall (kd := 1) (t := 0) [.ref 0, .int _, .int _, .int _, .ref 83] [] hI.1.1 (lI3 18 rfl) (Or.inr ⟨_, rfl, rfl, by decide⟩) rfl rfl rfl ⟨rfl, rfl, rfl⟩ rfl rfl rfl (h369J (d := 579) hI (fun r1386 hp1386 mc ms hI1386 hmc hms => Or.inl ⟨_, rfl, ?_⟩))
  refine cistU 1391 (lI3 19 rfl) rfl rfl rfl ?_
  refine cald 1392 (lI3 20 rfl) rfl rfl ?_
  refine cald 1393 (lI3 21 rfl) rfl rfl ?_
  refine cild2 1395 (lI3 22 rfl) rfl rfl ?_
  refine ccst 1396 (1) (lI3 23 rfl) rfl (by decide) (fun z1395 h1395 => ?_)
  refine cadd 1397 _ (lI3 24 rfl) rfl rfl (by omega) (by omega) (fun z1396 h1396 => ?_)
  refine cscl 1398 (lI3 25 rfl) rfl (by omega) (by omega) (fun w1397 => ?_)
  refine cald 1399 (lI3 26 rfl) rfl rfl ?_
  refine cild2 1401 (lI3 27 rfl) rfl rfl ?_
  refine ccst 1402 (2) (lI3 28 rfl) rfl (by decide) (fun z1401 h1401 => ?_)
  refine cadd 1403 _ (lI3 29 rfl) rfl rfl (by omega) (by omega) (fun z1402 h1402 => ?_)
  refine cscl 1404 (lI3 30 rfl) rfl (by omega) (by omega) (fun w1403 => ?_)
  refine cald 1405 (lI3 31 rfl) rfl rfl ?_
  refine cild2 1407 (lI3 32 rfl) rfl rfl ?_
  refine ccst 1408 (3) (lI3 33 rfl) rfl (by decide) (fun z1407 h1407 => ?_)
  refine cadd 1409 _ (lI3 34 rfl) rfl rfl (by omega) (by omega) (fun z1408 h1408 => ?_)
  refine cscl 1410 (lI3 35 rfl) rfl (by omega) (by omega) (fun w1409 => ?_)
  obtain ⟨⟨V, T, ty⟩, n, h, sv, c, r⟩ := hI1386.2
  refine ccall (kd := 0) (t := 0) [.ref 66, .int _, .int _, .int _] [] hI1386.1.1 (lI3 36 rfl) (Or.inl ⟨_, rfl, rfl, by decide, by decide⟩) rfl rfl rfl ⟨rfl, rfl, rfl⟩ rfl (recv66 hI1386.1.1 _) rfl (qK (Φ := fun _ hp2 => bHk 84 bTT hp2 ∧ P0 hp2 ∧ bFr wM hp1386 hp2 ∧ stS hp2) (fun R hR => k_301E (d := 593) hI1386.1.1 hI1386.1.2.1 r (fun z hp2 a1 a2 a3 a4 a5 _ => hR z hp2 ⟨a1, a2, a3, ⟨_, _, _, _, wM_cl a3 c, a5⟩⟩)) (fun r2 hp2 g2 => Or.inl ⟨_, rfl, ?_⟩))
  refine cistU 1415 (lI3 37 rfl) rfl rfl rfl ?_
  refine cgoto (lI3 38 rfl) ?_
  exact cmono (hN hp2 ⟨law_rf hI1386.1 g2.1 g2.2.1 g2.2.2.1, g2.2.2.2⟩) (fun y hp9 m9 s9 h9 => ⟨h9.1, by have := h9.2.1; omega, by have := h9.2.2; omega⟩)
theorem cs25J {sc : List Int32} {b : Nat} {i : Int32} {hp : amH} (i0 : 0 ≤ i.toInt) (i1 : i.toInt + 6 ≤ (sc.length : Int)) (hL : sc.length ≤ 100000) (hI : lawJ hp) (hN : ∀ hp1, lawJ hp1 → lV sc b 2256 i hp1) : lV sc (b + 1) 1089 i hp := by
  refine cald 1090 (lI2 56 rfl) rfl rfl ?_
  refine cald 1091 (lI2 57 rfl) rfl rfl ?_
  refine cild2 1093 (lI2 58 rfl) rfl rfl ?_
  refine ccst 1094 (1) (lI2 59 rfl) rfl (by decide) (fun z1093 h1093 => ?_)
  refine cadd 1095 _ (lI2 60 rfl) rfl rfl (by omega) (by omega) (fun z1094 h1094 => ?_)
  refine cscl 1096 (lI2 61 rfl) rfl (by omega) (by omega) (fun w1095 => ?_)
  refine cif 1099 (lI2 62 rfl) rfl ?_ ?_
  · refine ccst 1104 (0) (lI2 65 rfl) rfl (by decide) (fun z1103 h1103 => ?_)
    refine ccall (kd := 0) (t := 0) [.ref 0, .int _] [] hI.1.1 (lI2 66 rfl) (Or.inl ⟨_, rfl, rfl, by decide, by decide⟩) rfl rfl rfl ⟨rfl, rfl, rfl⟩ rfl (recv0 hI.1.1 _) rfl (qIJ (bL8_s be_90 (List.mem_of_getElem? (i := 106) rfl)) rfl hI ⟨a0r, aB (by omega), trivial⟩ rfl rfl rfl (fun r1104 hp1104 hI1104 => Or.inl ⟨_, rfl, ?_⟩) (fun E _ _ hE => by cases hE))
    refine cpop 1108 (lI2 67 rfl) rfl rfl ?_
    refine cald 1109 (lI2 68 rfl) rfl rfl ?_
    refine cald 1110 (lI2 69 rfl) rfl rfl ?_
    refine cild2 1112 (lI2 70 rfl) rfl rfl ?_
    refine ccst 1113 (1) (lI2 71 rfl) rfl (by decide) (fun z1112 h1112 => ?_)
    refine cadd 1114 _ (lI2 72 rfl) rfl rfl (by omega) (by omega) (fun z1113 h1113 => ?_)
    refine cscl 1115 (lI2 73 rfl) rfl (by omega) (by omega) (fun w1114 => ?_)
    refine cif 1118 (lI2 74 rfl) rfl ?_ ?_
    · refine ccst 1123 (0) (lI2 77 rfl) rfl (by decide) (fun z1122 h1122 => ?_)
      obtain ⟨⟨V, T, ty⟩, n, h, sv, c, r⟩ := hI1104.2
      refine ccall (kd := 0) (t := 0) [.ref 66, .int _] [] hI1104.1.1 (lI2 78 rfl) (Or.inl ⟨_, rfl, rfl, by decide, by decide⟩) rfl rfl rfl ⟨rfl, rfl, rfl⟩ rfl (recv66 hI1104.1.1 _) rfl (qK (Φ := fun _ hp2 => bHk 84 bTT hp2 ∧ P0 hp2 ∧ bFr wM hp1104 hp2 ∧ stS hp2) (fun R hR => k_294E (d := 593) (most := decide (¬ Int32.toInt _ = 0)) decide_eq_true_iff hI1104.1.1 hI1104.1.2.1 r (fun z hp2 a1 a2 a3 a4 _ => hR z hp2 ⟨a1, a2, a3, ⟨_, _, _, _, wM_cl a3 c, a4⟩⟩)) (fun r2 hp2 g2 => Or.inl ⟨_, rfl, ?_⟩))
      refine cpop 1127 (lI2 79 rfl) rfl rfl ?_
      refine cgoto (lI2 80 rfl) ?_
      exact cmono (hN hp2 ⟨law_rf hI1104.1 g2.1 g2.2.1 g2.2.2.1, g2.2.2.2⟩) (fun y hp9 m9 s9 h9 => ⟨h9.1, by have := h9.2.1; omega, by have := h9.2.2; omega⟩)
    · refine ccst 1119 (1) (lI2 75 rfl) rfl (by decide) (fun z1118 h1118 => ?_)
      refine cgoto (lI2 76 rfl) ?_
      obtain ⟨⟨V, T, ty⟩, n, h, sv, c, r⟩ := hI1104.2
      refine ccall (kd := 0) (t := 0) [.ref 66, .int _] [] hI1104.1.1 (lI2 78 rfl) (Or.inl ⟨_, rfl, rfl, by decide, by decide⟩) rfl rfl rfl ⟨rfl, rfl, rfl⟩ rfl (recv66 hI1104.1.1 _) rfl (qK (Φ := fun _ hp2 => bHk 84 bTT hp2 ∧ P0 hp2 ∧ bFr wM hp1104 hp2 ∧ stS hp2) (fun R hR => k_294E (d := 593) (most := decide (¬ Int32.toInt _ = 0)) decide_eq_true_iff hI1104.1.1 hI1104.1.2.1 r (fun z hp2 a1 a2 a3 a4 _ => hR z hp2 ⟨a1, a2, a3, ⟨_, _, _, _, wM_cl a3 c, a4⟩⟩)) (fun r2 hp2 g2 => Or.inl ⟨_, rfl, ?_⟩))
      refine cpop 1127 (lI2 79 rfl) rfl rfl ?_
      refine cgoto (lI2 80 rfl) ?_
      exact cmono (hN hp2 ⟨law_rf hI1104.1 g2.1 g2.2.1 g2.2.2.1, g2.2.2.2⟩) (fun y hp9 m9 s9 h9 => ⟨h9.1, by have := h9.2.1; omega, by have := h9.2.2; omega⟩)
  · refine ccst 1100 (1) (lI2 63 rfl) rfl (by decide) (fun z1099 h1099 => ?_)
    refine cgoto (lI2 64 rfl) ?_
    refine ccall (kd := 0) (t := 0) [.ref 0, .int _] [] hI.1.1 (lI2 66 rfl) (Or.inl ⟨_, rfl, rfl, by decide, by decide⟩) rfl rfl rfl ⟨rfl, rfl, rfl⟩ rfl (recv0 hI.1.1 _) rfl (qIJ (bL8_s be_90 (List.mem_of_getElem? (i := 106) rfl)) rfl hI ⟨a0r, aB (by omega), trivial⟩ rfl rfl rfl (fun r1104 hp1104 hI1104 => Or.inl ⟨_, rfl, ?_⟩) (fun E _ _ hE => by cases hE))
    refine cpop 1108 (lI2 67 rfl) rfl rfl ?_
    refine cald 1109 (lI2 68 rfl) rfl rfl ?_
    refine cald 1110 (lI2 69 rfl) rfl rfl ?_
    refine cild2 1112 (lI2 70 rfl) rfl rfl ?_
    refine ccst 1113 (1) (lI2 71 rfl) rfl (by decide) (fun z1112 h1112 => ?_)
    refine cadd 1114 _ (lI2 72 rfl) rfl rfl (by omega) (by omega) (fun z1113 h1113 => ?_)
    refine cscl 1115 (lI2 73 rfl) rfl (by omega) (by omega) (fun w1114 => ?_)
    refine cif 1118 (lI2 74 rfl) rfl ?_ ?_
    · refine ccst 1123 (0) (lI2 77 rfl) rfl (by decide) (fun z1122 h1122 => ?_)
      obtain ⟨⟨V, T, ty⟩, n, h, sv, c, r⟩ := hI1104.2
      refine ccall (kd := 0) (t := 0) [.ref 66, .int _] [] hI1104.1.1 (lI2 78 rfl) (Or.inl ⟨_, rfl, rfl, by decide, by decide⟩) rfl rfl rfl ⟨rfl, rfl, rfl⟩ rfl (recv66 hI1104.1.1 _) rfl (qK (Φ := fun _ hp2 => bHk 84 bTT hp2 ∧ P0 hp2 ∧ bFr wM hp1104 hp2 ∧ stS hp2) (fun R hR => k_294E (d := 593) (most := decide (¬ Int32.toInt _ = 0)) decide_eq_true_iff hI1104.1.1 hI1104.1.2.1 r (fun z hp2 a1 a2 a3 a4 _ => hR z hp2 ⟨a1, a2, a3, ⟨_, _, _, _, wM_cl a3 c, a4⟩⟩)) (fun r2 hp2 g2 => Or.inl ⟨_, rfl, ?_⟩))
      refine cpop 1127 (lI2 79 rfl) rfl rfl ?_
      refine cgoto (lI2 80 rfl) ?_
      exact cmono (hN hp2 ⟨law_rf hI1104.1 g2.1 g2.2.1 g2.2.2.1, g2.2.2.2⟩) (fun y hp9 m9 s9 h9 => ⟨h9.1, by have := h9.2.1; omega, by have := h9.2.2; omega⟩)
    · refine ccst 1119 (1) (lI2 75 rfl) rfl (by decide) (fun z1118 h1118 => ?_)
      refine cgoto (lI2 76 rfl) ?_
      obtain ⟨⟨V, T, ty⟩, n, h, sv, c, r⟩ := hI1104.2
      refine ccall (kd := 0) (t := 0) [.ref 66, .int _] [] hI1104.1.1 (lI2 78 rfl) (Or.inl ⟨_, rfl, rfl, by decide, by decide⟩) rfl rfl rfl ⟨rfl, rfl, rfl⟩ rfl (recv66 hI1104.1.1 _) rfl (qK (Φ := fun _ hp2 => bHk 84 bTT hp2 ∧ P0 hp2 ∧ bFr wM hp1104 hp2 ∧ stS hp2) (fun R hR => k_294E (d := 593) (most := decide (¬ Int32.toInt _ = 0)) decide_eq_true_iff hI1104.1.1 hI1104.1.2.1 r (fun z hp2 a1 a2 a3 a4 _ => hR z hp2 ⟨a1, a2, a3, ⟨_, _, _, _, wM_cl a3 c, a4⟩⟩)) (fun r2 hp2 g2 => Or.inl ⟨_, rfl, ?_⟩))
      refine cpop 1127 (lI2 79 rfl) rfl rfl ?_
      refine cgoto (lI2 80 rfl) ?_
      exact cmono (hN hp2 ⟨law_rf hI1104.1 g2.1 g2.2.1 g2.2.2.1, g2.2.2.2⟩) (fun y hp9 m9 s9 h9 => ⟨h9.1, by have := h9.2.1; omega, by have := h9.2.2; omega⟩)
