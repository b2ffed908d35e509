/-! ===== the loop, one state kept ===== -/
theorem and63 (x z : Int32) (h : z.toInt = 63) : 0 ≤ (x &&& z).toInt ∧ (x &&& z).toInt ≤ 63 := by
  have e : z = 63 := Int32.toInt_inj.mp h
  subst e
  have h1 : (x &&& 63).toBitVec.toNat ≤ 63 := by rw [Int32.toBitVec_and, BitVec.toNat_and]; exact Nat.and_le_right
  have h2 : (x &&& 63).toInt = (x &&& 63).toBitVec.toInt := rfl
  rw [h2, BitVec.toInt_eq_toNat_cond]
  split <;> omega
theorem c_swJ {sc : List Int32} {b : Nat} {i : Int32} {hp : amH} (i0 : 0 ≤ i.toInt) (i1 : i.toInt + 6 ≤ (sc.length : Int)) (hL : sc.length ≤ 100000) (hI : lawJ hp) (hN : ∀ hp1, lawJ hp1 → lV sc b 2284 i hp1) : ∀ (j : Nat) (z : Int32), j < 64 → z.toInt = (j : Int) → cV (some sc) 600 am_mL 40 [some (.ref amS), some (.ref 0), some (.ref 66), some (.ref 83), some (.int i)] [.int z] hp (lQ (b + 1)) := by
  intro j z hj hz
  match j, hj, hz with
  | 0, _, hz => exact ctab 308 (lI0 24 rfl) (o := 268) (by rw [hz]; rfl) (by decide) (cs0J i0 i1 hL hI hN)
  | 1, _, hz => exact ctab 381 (lI0 24 rfl) (o := 341) (by rw [hz]; rfl) (by decide) (cs1J i0 i1 hL hI hN)
  | 2, _, hz => exact ctab 406 (lI0 24 rfl) (o := 366) (by rw [hz]; rfl) (by decide) (cs2J i0 i1 hL hI hN)
  | 3, _, hz => exact ctab 419 (lI0 24 rfl) (o := 379) (by rw [hz]; rfl) (by decide) (cs3J i0 i1 hL hI hN)
  | 4, _, hz => exact ctab 432 (lI0 24 rfl) (o := 392) (by rw [hz]; rfl) (by decide) (cs4J i0 i1 hL hI hN)
  | 5, _, hz => exact ctab 445 (lI0 24 rfl) (o := 405) (by rw [hz]; rfl) (by decide) (cs5J i0 i1 hL hI hN)
  | 6, _, hz => exact ctab 473 (lI0 24 rfl) (o := 433) (by rw [hz]; rfl) (by decide) (cs6J i0 i1 hL hI hN)
  | 7, _, hz => exact ctab 486 (lI0 24 rfl) (o := 446) (by rw [hz]; rfl) (by decide) (cs7J i0 i1 hL hI hN)
  | 8, _, hz => exact ctab 526 (lI0 24 rfl) (o := 486) (by rw [hz]; rfl) (by decide) (cs8J i0 i1 hL hI hN)
  | 9, _, hz => exact ctab 578 (lI0 24 rfl) (o := 538) (by rw [hz]; rfl) (by decide) (cs9J i0 i1 hL hI hN)
  | 10, _, hz => exact ctab 618 (lI0 24 rfl) (o := 578) (by rw [hz]; rfl) (by decide) (cs10J i0 i1 hL hI hN)
  | 11, _, hz => exact ctab 646 (lI0 24 rfl) (o := 606) (by rw [hz]; rfl) (by decide) (cs11J i0 i1 hL hI hN)
  | 12, _, hz => exact ctab 674 (lI0 24 rfl) (o := 634) (by rw [hz]; rfl) (by decide) (cs12J i0 i1 hL hI hN)
  | 13, _, hz => exact ctab 754 (lI0 24 rfl) (o := 714) (by rw [hz]; rfl) (by decide) (cs13J i0 i1 hL hI hN)
  | 14, _, hz => exact ctab 806 (lI0 24 rfl) (o := 766) (by rw [hz]; rfl) (by decide) (cs14J i0 i1 hL hI hN)
  | 15, _, hz => exact ctab 834 (lI0 24 rfl) (o := 794) (by rw [hz]; rfl) (by decide) (cs15J i0 i1 hL hI hN)
  | 16, _, hz => exact ctab 886 (lI0 24 rfl) (o := 846) (by rw [hz]; rfl) (by decide) (cs16J i0 i1 hL hI hN)
  | 17, _, hz => exact ctab 899 (lI0 24 rfl) (o := 859) (by rw [hz]; rfl) (by decide) (cs17J i0 i1 hL hI hN)
  | 18, _, hz => exact ctab 912 (lI0 24 rfl) (o := 872) (by rw [hz]; rfl) (by decide) (cs18J i0 i1 hL hI hN)
  | 19, _, hz => exact ctab 925 (lI0 24 rfl) (o := 885) (by rw [hz]; rfl) (by decide) (cs19J i0 i1 hL hI hN)
  | 20, _, hz => exact ctab 965 (lI0 24 rfl) (o := 925) (by rw [hz]; rfl) (by decide) (cs20J i0 i1 hL hI hN)
  | 21, _, hz => exact ctab 1005 (lI0 24 rfl) (o := 965) (by rw [hz]; rfl) (by decide) (cs21J i0 i1 hL hI hN)
  | 22, _, hz => exact ctab 1033 (lI0 24 rfl) (o := 993) (by rw [hz]; rfl) (by decide) (cs22J i0 i1 hL hI hN)
  | 23, _, hz => exact ctab 1061 (lI0 24 rfl) (o := 1021) (by rw [hz]; rfl) (by decide) (cs23J i0 i1 hL hI hN)
  | 24, _, hz => exact ctab 1089 (lI0 24 rfl) (o := 1049) (by rw [hz]; rfl) (by decide) (cs24J i0 i1 hL hI hN)
  | 25, _, hz => exact ctab 1117 (lI0 24 rfl) (o := 1077) (by rw [hz]; rfl) (by decide) (cs25J i0 i1 hL hI hN)
  | 26, _, hz => exact ctab 1158 (lI0 24 rfl) (o := 1118) (by rw [hz]; rfl) (by decide) (cs26J i0 i1 hL hI hN)
  | 27, _, hz => exact ctab 1186 (lI0 24 rfl) (o := 1146) (by rw [hz]; rfl) (by decide) (cs27J i0 i1 hL hI hN)
  | 28, _, hz => exact ctab 1226 (lI0 24 rfl) (o := 1186) (by rw [hz]; rfl) (by decide) (cs28J i0 i1 hL hI hN)
  | 29, _, hz => exact ctab 1278 (lI0 24 rfl) (o := 1238) (by rw [hz]; rfl) (by decide) (cs29J i0 i1 hL hI hN)
  | 30, _, hz => exact ctab 1342 (lI0 24 rfl) (o := 1302) (by rw [hz]; rfl) (by decide) (cs30J i0 i1 hL hI hN)
  | 31, _, hz => exact ctab 1394 (lI0 24 rfl) (o := 1354) (by rw [hz]; rfl) (by decide) (cs31J i0 i1 hL hI hN)
  | 32, _, hz => exact ctab 1446 (lI0 24 rfl) (o := 1406) (by rw [hz]; rfl) (by decide) (cs32J i0 i1 hL hI hN)
  | 33, _, hz => exact ctab 1471 (lI0 24 rfl) (o := 1431) (by rw [hz]; rfl) (by decide) (cs33J i0 i1 hL hI hN)
  | 34, _, hz => exact ctab 1496 (lI0 24 rfl) (o := 1456) (by rw [hz]; rfl) (by decide) (cs34J i0 i1 hL hI hN)
  | 35, _, hz => exact ctab 1536 (lI0 24 rfl) (o := 1496) (by rw [hz]; rfl) (by decide) (cs35J i0 i1 hL hI hN)
  | 36, _, hz => exact ctab 1549 (lI0 24 rfl) (o := 1509) (by rw [hz]; rfl) (by decide) (cs36J i0 i1 hL hI hN)
  | 37, _, hz => exact ctab 1562 (lI0 24 rfl) (o := 1522) (by rw [hz]; rfl) (by decide) (cs37J i0 i1 hL hI hN)
  | 38, _, hz => exact ctab 1614 (lI0 24 rfl) (o := 1574) (by rw [hz]; rfl) (by decide) (cs38J i0 i1 hL hI hN)
  | 39, _, hz => exact ctab 1666 (lI0 24 rfl) (o := 1626) (by rw [hz]; rfl) (by decide) (cs39J i0 i1 hL hI hN)
  | 40, _, hz => exact ctab 1718 (lI0 24 rfl) (o := 1678) (by rw [hz]; rfl) (by decide) (cs40J i0 i1 hL hI hN)
  | 41, _, hz => exact ctab 1770 (lI0 24 rfl) (o := 1730) (by rw [hz]; rfl) (by decide) (cs41J i0 i1 hL hI hN)
  | 42, _, hz => exact ctab 1798 (lI0 24 rfl) (o := 1758) (by rw [hz]; rfl) (by decide) (cs42J i0 i1 hL hI hN)
  | 43, _, hz => exact ctab 1814 (lI0 24 rfl) (o := 1774) (by rw [hz]; rfl) (by decide) (cs43J i0 i1 hL hI hN)
  | 44, _, hz => exact ctab 1839 (lI0 24 rfl) (o := 1799) (by rw [hz]; rfl) (by decide) (cs44J i0 i1 hL hI hN)
  | 45, _, hz => exact ctab 1852 (lI0 24 rfl) (o := 1812) (by rw [hz]; rfl) (by decide) (cs45J i0 i1 hL hI hN)
  | 46, _, hz => exact ctab 1865 (lI0 24 rfl) (o := 1825) (by rw [hz]; rfl) (by decide) (cs46J i0 i1 hL hI hN)
  | 47, _, hz => exact ctab 1890 (lI0 24 rfl) (o := 1850) (by rw [hz]; rfl) (by decide) (cs47J i0 i1 hL hI hN)
  | 48, _, hz => exact ctab 1905 (lI0 24 rfl) (o := 1865) (by rw [hz]; rfl) (by decide) (cs48J i0 i1 hL hI hN)
  | 49, _, hz => exact ctab 1922 (lI0 24 rfl) (o := 1882) (by rw [hz]; rfl) (by decide) (cs49J i0 i1 hL hI hN)
  | 50, _, hz => exact ctab 1950 (lI0 24 rfl) (o := 1910) (by rw [hz]; rfl) (by decide) (cs50J i0 i1 hL hI hN)
  | 51, _, hz => exact ctab 1963 (lI0 24 rfl) (o := 1923) (by rw [hz]; rfl) (by decide) (cs51J i0 i1 hL hI hN)
  | 52, _, hz => exact ctab 1976 (lI0 24 rfl) (o := 1936) (by rw [hz]; rfl) (by decide) (cs52J i0 i1 hL hI hN)
  | 53, _, hz => exact ctab 2004 (lI0 24 rfl) (o := 1964) (by rw [hz]; rfl) (by decide) (cs53J i0 i1 hL hI hN)
  | 54, _, hz => exact ctab 2017 (lI0 24 rfl) (o := 1977) (by rw [hz]; rfl) (by decide) (cs54J i0 i1 hL hI hN)
  | 55, _, hz => exact ctab 2057 (lI0 24 rfl) (o := 2017) (by rw [hz]; rfl) (by decide) (cs55J i0 i1 hL hI hN)
  | 56, _, hz => exact ctab 2085 (lI0 24 rfl) (o := 2045) (by rw [hz]; rfl) (by decide) (cs56J i0 i1 hL hI hN)
  | 57, _, hz => exact ctab 2137 (lI0 24 rfl) (o := 2097) (by rw [hz]; rfl) (by decide) (cs57J i0 i1 hL hI hN)
  | 58, _, hz => exact ctab 2189 (lI0 24 rfl) (o := 2149) (by rw [hz]; rfl) (by decide) (cs58J i0 i1 hL hI hN)
  | 59, _, hz => exact ctab 2217 (lI0 24 rfl) (o := 2177) (by rw [hz]; rfl) (by decide) (cs59J i0 i1 hL hI hN)
  | 60, _, hz => exact ctab 2242 (lI0 24 rfl) (o := 2202) (by rw [hz]; rfl) (by decide) (cs60J i0 i1 hL hI hN)
  | 61, _, hz => exact ctab 2255 (lI0 24 rfl) (o := 2215) (by rw [hz]; rfl) (by decide) (cs61J i0 i1 hL hI hN)
  | 62, _, hz => exact ctab 2268 (lI0 24 rfl) (o := 2228) (by rw [hz]; rfl) (by decide) (cs62J i0 i1 hL hI hN)
  | 63, _, hz => exact ctab 2284 (lI0 24 rfl) (o := 2244) (by rw [hz]; rfl) (by decide) (cmono (hN hp hI) (fun y hp9 m9 s9 h9 => ⟨h9.1, by have := h9.2.1; omega, by have := h9.2.2; omega⟩))
  | n + 64, hj, _ => omega
theorem c_loopJ {sc : List Int32} (hL : sc.length ≤ 100000) : ∀ (b : Nat) (i : Int32) (hp : amH), 0 ≤ i.toInt → i.toInt ≤ 100000 → (sc.length : Int) < i.toInt + 6 * (b : Int) + 6 → lawJ hp → lV sc b 23 i hp := by
  intro b
  induction b with
  | zero =>
    intro i hp i0 i9 ib hI
    refine cild2 25 (lI0 13 rfl) rfl rfl ?_
    refine cald 26 (lI0 14 rfl) rfl rfl ?_
    refine clen 27 (lI0 15 rfl) rfl (by omega) (fun z26 h26 => ?_)
    refine cbip 29 (6) (lI0 16 rfl) rfl (by decide) (fun z27 h27 => ?_)
    refine csub 30 _ (lI0 17 rfl) rfl rfl (by omega) (by omega) (fun z29 h29 => ?_)
    refine ccmp_gt 33 (lI0 18 rfl) rfl (fun c30 => ?_) (fun c30 => ?_)
    · refine ccst 2291 (1) (lI5 112 rfl) rfl (by decide) (fun z2290 h2290 => ?_)
      exact cret (lI5 113 rfl) (Or.inr ⟨rfl, Int32.toInt_inj.mp h2290⟩) ⟨by rw [Int32.toInt_inj.mp (show z2290.toInt = (1 : Int32).toInt from h2290)], Nat.le_refl _, Nat.le_refl _⟩
    · omega
  | succ b ih =>
    intro i hp i0 i9 ib hI
    refine cild2 25 (lI0 13 rfl) rfl rfl ?_
    refine cald 26 (lI0 14 rfl) rfl rfl ?_
    refine clen 27 (lI0 15 rfl) rfl (by omega) (fun z26 h26 => ?_)
    refine cbip 29 (6) (lI0 16 rfl) rfl (by decide) (fun z27 h27 => ?_)
    refine csub 30 _ (lI0 17 rfl) rfl rfl (by omega) (by omega) (fun z29 h29 => ?_)
    refine ccmp_gt 33 (lI0 18 rfl) rfl (fun c30 => ?_) (fun c30 => ?_)
    · refine ccst 2291 (1) (lI5 112 rfl) rfl (by decide) (fun z2290 h2290 => ?_)
      exact cret (lI5 113 rfl) (Or.inr ⟨rfl, Int32.toInt_inj.mp h2290⟩) ⟨by rw [Int32.toInt_inj.mp (show z2290.toInt = (1 : Int32).toInt from h2290)], Nat.zero_le _, Nat.zero_le _⟩
    · refine cald 34 (lI0 19 rfl) rfl rfl ?_
      refine cild2 36 (lI0 20 rfl) rfl rfl ?_
      refine cscl 37 (lI0 21 rfl) rfl (by omega) (by omega) (fun w36 => ?_)
      refine cbip 39 (63) (lI0 22 rfl) rfl (by decide) (fun z37 h37 => ?_)
      refine cand 40 (lI0 23 rfl) rfl ?_
      have a39 := and63 w36 z37 h37
      refine c_swJ i0 (by omega) hL hI (fun hp1 hI1 => ?_) (w36 &&& z37).toInt.toNat _ (by omega) (by omega)
      refine cinc 2287 (6) (lI5 110 rfl) rfl rfl rfl (by decide) (by omega) (by omega) (fun z2284 h2284 => ?_)
      refine cgoto (lI5 111 rfl) ?_
      exact ih z2284 hp1 (by omega) (by omega) (by omega) hI1
