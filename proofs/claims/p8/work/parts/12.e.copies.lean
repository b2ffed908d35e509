/-! ===== copies ===== -/
/-- what copies does, element after element -/
def cpy (src : List Int32) (s0 d0 : Nat) : Nat → List Int32 → List Int32
  | 0, dst => dst
  | n + 1, dst => cpy src (s0 + 1) (d0 + 1) n (dst.set d0 (src.getD s0 0))
theorem cpy_len (src : List Int32) : ∀ (n s0 d0 : Nat) (dst : List Int32), (cpy src s0 d0 n dst).length = dst.length
  | 0, _, _, _ => rfl
  | n + 1, s0, d0, dst => by unfold cpy; rw [cpy_len, List.length_set]
theorem s198_3 : amSeek am_m198.1 3 = [(3, .iload 5, 0, 0), (5, .iload 4, 0, 0), (7, .if_icmp .ge 21, 28, 0), (10, .aload_n 2, 0, 0), (11, .iload_n 3, 0, 0), (12, .iload 5, 0, 0), (14, .iadd, 0, 0), (15, .aload_n 0, 0, 0), (16, .iload_n 1, 0, 0), (17, .iload 5, 0, 0), (19, .iadd, 0, 0), (20, .iaload, 0, 0), (21, .iastore, 0, 0), (22, .iinc 5 1, 0, 0), (25, .goto (-22), 3, 0), (28, .return_, 0, 0)] := rfl
theorem p198b : am_m198.2.1 = 6 := rfl
theorem m_copies_loop {G : Nat → Option amM} {p q : Nat} (hpq : ¬ p = q) {src : List Int32} {at0 into many : Int32} {s0 d0 N : Nat} (ha : at0.toInt = (s0 : Int)) (hi : into.toInt = (d0 : Int)) (hm : many.toInt = (N : Int)) (hs : s0 + N ≤ src.length) (hb : src.length ≤ 100000) :
    ∀ (j k : Nat) (ki : Int32) (hp : amH) (dst : List Int32) (f d kc ks : Nat), k + j = N → ki.toInt = (k : Int) → hp[p]? = some (32, src.map Value.int) → hp[q]? = some (32, dst.map Value.int) → d0 + N ≤ dst.length → dst.length ≤ 100000 →
    amRun G none (f + 15 * j + 10) d am_m198 (amSeek am_m198.1 3) 3 [(5, .int ki), (0, .ref p), (1, .int at0), (2, .ref q), (3, .int into), (4, .int many)] [] hp kc ks = some (.inl none, hp.set q (32, (cpy src (s0 + k) (d0 + k) j dst).map Value.int), kc, ks) := by
  intro j
  induction j with
  | zero =>
    intro k ki hp dst f d kc ks hk hki h1 h2 h3 h4
    have hc : ¬ ki < many := fun z => by have := Int32.lt_iff_toInt_lt.mp z; omega
    have hc2 : many ≤ ki := Int32.le_iff_toInt_le.mpr (by omega)
    have hset : hp.set q (32, dst.map Value.int) = hp := by
      apply List.ext_getElem?
      intro i
      by_cases e : q = i
      · subst e
        have hlt : q < hp.length := by
          rcases Nat.lt_or_ge q hp.length with z | z
          · exact z
          · rw [List.getElem?_eq_none z] at h2; cases h2
        rw [List.getElem?_set_self hlt, h2]
      · rw [List.getElem?_set_ne e]
    simp only [cpy, hset]
    simp [am_m198, amSeek, amRun, amDo, amStep, amLd, amGet, isI_int, amNext, amCmp, amCmpP, hc2, amRetV]
  | succ j ih =>
    intro k ki hp dst f d kc ks hk hki h1 h2 h3 h4
    have hc2 : ¬ many ≤ ki := fun z => by have := Int32.le_iff_toInt_le.mp z; omega
    have i1 : (at0 + ki).toInt = ((s0 + k : Nat) : Int) := by rw [Int32.toInt_add, ha, hki, aBmod (by omega) (by omega)]; omega
    have i2 : (into + ki).toInt = ((d0 + k : Nat) : Int) := by rw [Int32.toInt_add, hi, hki, aBmod (by omega) (by omega)]; omega
    have i3 : (ki + 1).toInt = ((k + 1 : Nat) : Int) := by rw [Int32.toInt_add, hki, show (1 : Int32).toInt = 1 by decide, aBmod (by omega) (by omega)]; omega
    have hr := rw_rd (r := [.int (into + ki), .ref q]) h1 i1 (by omega)
    have hw := rw_wr (r := []) (v := src.getD (s0 + k) 0) h2 i2 (by omega)
    have hlt : q < hp.length := by
      rcases Nat.lt_or_ge q hp.length with z | z
      · exact z
      · rw [List.getElem?_eq_none z] at h2; cases h2
    have nx := ih (k + 1) (ki + 1) (hp.set q (32, (dst.set (d0 + k) (src.getD (s0 + k) 0)).map Value.int)) (dst.set (d0 + k) (src.getD (s0 + k) 0)) f d kc ks (by omega) i3 (by rw [List.getElem?_set_ne (fun z => hpq z.symm)]; exact h1) (List.getElem?_set_self hlt) (by rw [List.length_set]; exact h3) (by rw [List.length_set]; exact h4)
    rw [List.set_set] at nx
    rw [s198_3, show f + 15 * (j + 1) + 10 = f + 15 * j + 10 + 15 by omega]
    simp only [cpy]
    rw [show s0 + k + 1 = s0 + (k + 1) by omega, show d0 + k + 1 = d0 + (k + 1) by omega]
    refine Eq.trans ?_ nx
    generalize src.getD (s0 + k) 0 = v at hr hw ⊢
    simp [p198b, amRun, amDo, amStep, amLd, amGet, isI_int, isA_ref, f4_2, f4_3, amNext, amCmp, amCmpP, hc2, amII, amSc, hr, hw, amInc, amSet1, Value.category]
