/-! ===== the loop, one state kept ===== -/
theorem and63 (x z : Int32) (h : z.toInt = 63) : 0 ≤ (x &&& z).toInt ∧ (x &&& z).toInt ≤ 63 := by
  have e : z = 63 := Int32.toInt_inj.mp h
  subst e
  have h1 : (x &&& 63).toBitVec.toNat ≤ 63 := by rw [Int32.toBitVec_and, BitVec.toNat_and]; exact Nat.and_le_right
  have h2 : (x &&& 63).toInt = (x &&& 63).toBitVec.toInt := rfl
  rw [h2, BitVec.toInt_eq_toNat_cond]
  split <;> omega
theorem c_swJ {sc : List Int32} {b : Nat} {i : Int32} {hp : amH} (i0 : 0 ≤ i.toInt) (i1 : i.toInt + 6 ≤ (sc.length : Int)) (hL : sc.length ≤ 100000) (hI : lawJ hp) (hN : ∀ hp1, lawJ hp1 → lV sc b 2256 i hp1) : ∀ (j : Nat) (z : Int32), j < 64 → z.toInt = (j : Int) → cV (some sc) 600 am_mL 40 [some (.ref amS), some (.ref 0), some (.ref 66), some (.ref 83), some (.int i)] [.int z] hp (lQ (b + 1)) := by
  intro j z hj hz
  match j, hj, hz with
  | 0, _, hz => exact ctab 308 (lI0 24 rfl) (o := 268) (by rw [hz]; rfl) (by decide) (cs0J i0 i1 hL hI hN)
  | 1, _, hz => exact ctab 381 (lI0 24 rfl) (o := 341) (by rw [hz]; rfl) (by decide) (cs1J i0 i1 hL hI hN)
  | 2, _, hz => exact ctab 406 (lI0 24 rfl) (o := 366) (by rw [hz]; rfl) (by decide) (cs2J i0 i1 hL hI hN)
  | 3, _, hz => exact ctab 419 (lI0 24 rfl) (o := 379) (by rw [hz]; rfl) (by decide) (cs3J i0 i1 hL hI hN)
  | 4, _, hz => exact ctab 432 (lI0 24 rfl) (o := 392) (by rw [hz]; rfl) (by decide) (cs4J i0 i1 hL hI hN)
  | 5, _, hz => exact ctab 445 (lI0 24 rfl) (o := 405) (by rw [hz]; rfl) (by decide) (cs5J i0 i1 hL hI hN)
  | 6, _, hz => exact ctab 473 (lI0 24 rfl) (o := 433) (by rw [hz]; rfl) (by decide) (cs6J i0 i1 hL hI hN)
  | 7, _, hz => exact ctab 486 (lI0 24 rfl) (o := 446) (by rw [hz]; rfl) (by decide) (cs7J i0 i1 hL hI hN)
  | 8, _, hz => exact ctab 526 (lI0 24 rfl) (o := 486) (by rw [hz]; rfl) (by decide) (cs8J i0 i1 hL hI hN)
  | 9, _, hz => exact ctab 578 (lI0 24 rfl) (o := 538) (by rw [hz]; rfl) (by decide) (cs9J i0 i1 hL hI hN)
  | 10, _, hz => exact ctab 618 (lI0 24 rfl) (o := 578) (by rw [hz]; rfl) (by decide) (cs10J i0 i1 hL hI hN)
  | 11, _, hz => exact ctab 646 (lI0 24 rfl) (o := 606) (by rw [hz]; rfl) (by decide) (cs11J i0 i1 hL hI hN)
  | 12, _, hz => exact ctab 674 (lI0 24 rfl) (o := 634) (by rw [hz]; rfl) (by decide) (cs12J i0 i1 hL hI hN)
  | 13, _, hz => exact ctab 726 (lI0 24 rfl) (o := 686) (by rw [hz]; rfl) (by decide) (cs13J i0 i1 hL hI hN)
  | 14, _, hz => exact ctab 778 (lI0 24 rfl) (o := 738) (by rw [hz]; rfl) (by decide) (cs14J i0 i1 hL hI hN)
  | 15, _, hz => exact ctab 806 (lI0 24 rfl) (o := 766) (by rw [hz]; rfl) (by decide) (cs15J i0 i1 hL hI hN)
  | 16, _, hz => exact ctab 858 (lI0 24 rfl) (o := 818) (by rw [hz]; rfl) (by decide) (cs16J i0 i1 hL hI hN)
  | 17, _, hz => exact ctab 871 (lI0 24 rfl) (o := 831) (by rw [hz]; rfl) (by decide) (cs17J i0 i1 hL hI hN)
  | 18, _, hz => exact ctab 884 (lI0 24 rfl) (o := 844) (by rw [hz]; rfl) (by decide) (cs18J i0 i1 hL hI hN)
  | 19, _, hz => exact ctab 897 (lI0 24 rfl) (o := 857) (by rw [hz]; rfl) (by decide) (cs19J i0 i1 hL hI hN)
  | 20, _, hz => exact ctab 937 (lI0 24 rfl) (o := 897) (by rw [hz]; rfl) (by decide) (cs20J i0 i1 hL hI hN)
  | 21, _, hz => exact ctab 977 (lI0 24 rfl) (o := 937) (by rw [hz]; rfl) (by decide) (cs21J i0 i1 hL hI hN)
  | 22, _, hz => exact ctab 1005 (lI0 24 rfl) (o := 965) (by rw [hz]; rfl) (by decide) (cs22J i0 i1 hL hI hN)
  | 23, _, hz => exact ctab 1033 (lI0 24 rfl) (o := 993) (by rw [hz]; rfl) (by decide) (cs23J i0 i1 hL hI hN)
  | 24, _, hz => exact ctab 1061 (lI0 24 rfl) (o := 1021) (by rw [hz]; rfl) (by decide) (cs24J i0 i1 hL hI hN)
  | 25, _, hz => exact ctab 1089 (lI0 24 rfl) (o := 1049) (by rw [hz]; rfl) (by decide) (cs25J i0 i1 hL hI hN)
  | 26, _, hz => exact ctab 1130 (lI0 24 rfl) (o := 1090) (by rw [hz]; rfl) (by decide) (cs26J i0 i1 hL hI hN)
  | 27, _, hz => exact ctab 1158 (lI0 24 rfl) (o := 1118) (by rw [hz]; rfl) (by decide) (cs27J i0 i1 hL hI hN)
  | 28, _, hz => exact ctab 1198 (lI0 24 rfl) (o := 1158) (by rw [hz]; rfl) (by decide) (cs28J i0 i1 hL hI hN)
  | 29, _, hz => exact ctab 1250 (lI0 24 rfl) (o := 1210) (by rw [hz]; rfl) (by decide) (cs29J i0 i1 hL hI hN)
  | 30, _, hz => exact ctab 1314 (lI0 24 rfl) (o := 1274) (by rw [hz]; rfl) (by decide) (cs30J i0 i1 hL hI hN)
  | 31, _, hz => exact ctab 1366 (lI0 24 rfl) (o := 1326) (by rw [hz]; rfl) (by decide) (cs31J i0 i1 hL hI hN)
  | 32, _, hz => exact ctab 1418 (lI0 24 rfl) (o := 1378) (by rw [hz]; rfl) (by decide) (cs32J i0 i1 hL hI hN)
  | 33, _, hz => exact ctab 1443 (lI0 24 rfl) (o := 1403) (by rw [hz]; rfl) (by decide) (cs33J i0 i1 hL hI hN)
  | 34, _, hz => exact ctab 1468 (lI0 24 rfl) (o := 1428) (by rw [hz]; rfl) (by decide) (cs34J i0 i1 hL hI hN)
  | 35, _, hz => exact ctab 1508 (lI0 24 rfl) (o := 1468) (by rw [hz]; rfl) (by decide) (cs35J i0 i1 hL hI hN)
  | 36, _, hz => exact ctab 1521 (lI0 24 rfl) (o := 1481) (by rw [hz]; rfl) (by decide) (cs36J i0 i1 hL hI hN)
  | 37, _, hz => exact ctab 1534 (lI0 24 rfl) (o := 1494) (by rw [hz]; rfl) (by decide) (cs37J i0 i1 hL hI hN)
  | 38, _, hz => exact ctab 1586 (lI0 24 rfl) (o := 1546) (by rw [hz]; rfl) (by decide) (cs38J i0 i1 hL hI hN)
  | 39, _, hz => exact ctab 1638 (lI0 24 rfl) (o := 1598) (by rw [hz]; rfl) (by decide) (cs39J i0 i1 hL hI hN)
  | 40, _, hz => exact ctab 1690 (lI0 24 rfl) (o := 1650) (by rw [hz]; rfl) (by decide) (cs40J i0 i1 hL hI hN)
  | 41, _, hz => exact ctab 1742 (lI0 24 rfl) (o := 1702) (by rw [hz]; rfl) (by decide) (cs41J i0 i1 hL hI hN)
  | 42, _, hz => exact ctab 1770 (lI0 24 rfl) (o := 1730) (by rw [hz]; rfl) (by decide) (cs42J i0 i1 hL hI hN)
  | 43, _, hz => exact ctab 1786 (lI0 24 rfl) (o := 1746) (by rw [hz]; rfl) (by decide) (cs43J i0 i1 hL hI hN)
  | 44, _, hz => exact ctab 1811 (lI0 24 rfl) (o := 1771) (by rw [hz]; rfl) (by decide) (cs44J i0 i1 hL hI hN)
  | 45, _, hz => exact ctab 1824 (lI0 24 rfl) (o := 1784) (by rw [hz]; rfl) (by decide) (cs45J i0 i1 hL hI hN)
  | 46, _, hz => exact ctab 1837 (lI0 24 rfl) (o := 1797) (by rw [hz]; rfl) (by decide) (cs46J i0 i1 hL hI hN)
  | 47, _, hz => exact ctab 1862 (lI0 24 rfl) (o := 1822) (by rw [hz]; rfl) (by decide) (cs47J i0 i1 hL hI hN)
  | 48, _, hz => exact ctab 1877 (lI0 24 rfl) (o := 1837) (by rw [hz]; rfl) (by decide) (cs48J i0 i1 hL hI hN)
  | 49, _, hz => exact ctab 1894 (lI0 24 rfl) (o := 1854) (by rw [hz]; rfl) (by decide) (cs49J i0 i1 hL hI hN)
  | 50, _, hz => exact ctab 1922 (lI0 24 rfl) (o := 1882) (by rw [hz]; rfl) (by decide) (cs50J i0 i1 hL hI hN)
  | 51, _, hz => exact ctab 1935 (lI0 24 rfl) (o := 1895) (by rw [hz]; rfl) (by decide) (cs51J i0 i1 hL hI hN)
  | 52, _, hz => exact ctab 1948 (lI0 24 rfl) (o := 1908) (by rw [hz]; rfl) (by decide) (cs52J i0 i1 hL hI hN)
  | 53, _, hz => exact ctab 1976 (lI0 24 rfl) (o := 1936) (by rw [hz]; rfl) (by decide) (cs53J i0 i1 hL hI hN)
  | 54, _, hz => exact ctab 1989 (lI0 24 rfl) (o := 1949) (by rw [hz]; rfl) (by decide) (cs54J i0 i1 hL hI hN)
  | 55, _, hz => exact ctab 2029 (lI0 24 rfl) (o := 1989) (by rw [hz]; rfl) (by decide) (cs55J i0 i1 hL hI hN)
  | 56, _, hz => exact ctab 2057 (lI0 24 rfl) (o := 2017) (by rw [hz]; rfl) (by decide) (cs56J i0 i1 hL hI hN)
  | 57, _, hz => exact ctab 2109 (lI0 24 rfl) (o := 2069) (by rw [hz]; rfl) (by decide) (cs57J i0 i1 hL hI hN)
  | 58, _, hz => exact ctab 2161 (lI0 24 rfl) (o := 2121) (by rw [hz]; rfl) (by decide) (cs58J i0 i1 hL hI hN)
  | 59, _, hz => exact ctab 2189 (lI0 24 rfl) (o := 2149) (by rw [hz]; rfl) (by decide) (cs59J i0 i1 hL hI hN)
  | 60, _, hz => exact ctab 2214 (lI0 24 rfl) (o := 2174) (by rw [hz]; rfl) (by decide) (cs60J i0 i1 hL hI hN)
  | 61, _, hz => exact ctab 2227 (lI0 24 rfl) (o := 2187) (by rw [hz]; rfl) (by decide) (cs61J i0 i1 hL hI hN)
  | 62, _, hz => exact ctab 2240 (lI0 24 rfl) (o := 2200) (by rw [hz]; rfl) (by decide) (cs62J i0 i1 hL hI hN)
  | 63, _, hz => exact ctab 2256 (lI0 24 rfl) (o := 2216) (by rw [hz]; rfl) (by decide) (cmono (hN hp hI) (fun y hp9 m9 s9 h9 => ⟨h9.1, by have := h9.2.1; omega, by have := h9.2.2; omega⟩))
  | n + 64, hj, _ => omega
theorem c_loopJ {sc : List Int32} (hL : sc.length ≤ 100000) : ∀ (b : Nat) (i : Int32) (hp : amH), 0 ≤ i.toInt → i.toInt ≤ 100000 → (sc.length : Int) < i.toInt + 6 * (b : Int) + 6 → lawJ hp → lV sc b 23 i hp := by
  intro b
  induction b with
  | zero =>
    intro i hp i0 i9 ib hI
    refine cild2 25 (lI0 13 rfl) rfl rfl ?_
    refine cald 26 (lI0 14 rfl) rfl rfl ?_
    refine clen 27 (lI0 15 rfl) rfl (by omega) (fun z26 h26 => ?_)
    refine cbip 29 (6) (lI0 16 rfl) rfl (by decide) (fun z27 h27 => ?_)
    refine csub 30 _ (lI0 17 rfl) rfl rfl (by omega) (by omega) (fun z29 h29 => ?_)
    refine ccmp_gt 33 (lI0 18 rfl) rfl (fun c30 => ?_) (fun c30 => ?_)
    · refine ccst 2263 (1) (lI5 95 rfl) rfl (by decide) (fun z2262 h2262 => ?_)
      exact cret (lI5 96 rfl) (Or.inr ⟨rfl, Int32.toInt_inj.mp h2262⟩) ⟨by rw [Int32.toInt_inj.mp (show z2262.toInt = (1 : Int32).toInt from h2262)], Nat.le_refl _, Nat.le_refl _⟩
    · omega
  | succ b ih =>
    intro i hp i0 i9 ib hI
    refine cild2 25 (lI0 13 rfl) rfl rfl ?_
    refine cald 26 (lI0 14 rfl) rfl rfl ?_
    refine clen 27 (lI0 15 rfl) rfl (by omega) (fun z26 h26 => ?_)
    refine cbip 29 (6) (lI0 16 rfl) rfl (by decide) (fun z27 h27 => ?_)
    refine csub 30 _ (lI0 17 rfl) rfl rfl (by omega) (by omega) (fun z29 h29 => ?_)
    refine ccmp_gt 33 (lI0 18 rfl) rfl (fun c30 => ?_) (fun c30 => ?_)
    · refine ccst 2263 (1) (lI5 95 rfl) rfl (by decide) (fun z2262 h2262 => ?_)
      exact cret (lI5 96 rfl) (Or.inr ⟨rfl, Int32.toInt_inj.mp h2262⟩) ⟨by rw [Int32.toInt_inj.mp (show z2262.toInt = (1 : Int32).toInt from h2262)], Nat.zero_le _, Nat.zero_le _⟩
    · refine cald 34 (lI0 19 rfl) rfl rfl ?_
      refine cild2 36 (lI0 20 rfl) rfl rfl ?_
      refine cscl 37 (lI0 21 rfl) rfl (by omega) (by omega) (fun w36 => ?_)
      refine cbip 39 (63) (lI0 22 rfl) rfl (by decide) (fun z37 h37 => ?_)
      refine cand 40 (lI0 23 rfl) rfl ?_
      have a39 := and63 w36 z37 h37
      refine c_swJ i0 (by omega) hL hI (fun hp1 hI1 => ?_) (w36 &&& z37).toInt.toNat _ (by omega) (by omega)
      refine cinc 2259 (6) (lI5 93 rfl) rfl rfl rfl (by decide) (by omega) (by omega) (fun z2256 h2256 => ?_)
      refine cgoto (lI5 94 rfl) ?_
      exact ih z2256 hp1 (by omega) (by omega) (by omega) hI1
