/-! ===== the reference: whole rows copied ===== -/
theorem cpy_get (src : List Int32) : ∀ (n s0 d0 : Nat) (dst : List Int32) (i : Nat), d0 + n ≤ dst.length → (cpy src s0 d0 n dst).getD i 0 = if d0 ≤ i ∧ i < d0 + n then src.getD (s0 + (i - d0)) 0 else dst.getD i 0
  | 0, s0, d0, dst, i, _ => by
    rw [if_neg (by omega)]
    rfl
  | n + 1, s0, d0, dst, i, h => by
    unfold cpy
    rw [cpy_get src n (s0 + 1) (d0 + 1) _ i (by rw [List.length_set]; omega)]
    by_cases h1 : d0 + 1 ≤ i ∧ i < d0 + 1 + n
    · rw [if_pos h1, if_pos (by omega)]
      congr 1
      omega
    · rw [if_neg h1]
      by_cases h2 : i = d0
      · subst h2
        rw [if_pos (by omega), Nat.sub_self, Nat.add_zero, List.getD_eq_getElem?_getD, List.getElem?_set_self (by omega)]
        rfl
      · rw [if_neg (by omega), List.getD_eq_getElem?_getD, List.getElem?_set_ne (fun z => h2 z.symm), ← List.getD_eq_getElem?_getD]
theorem s198_0 : am_m198.1 = (0, .iconst 0, 0, 0) :: (1, .istore 5, 0, 0) :: amSeek am_m198.1 3 := rfl
/-- a heap of the types, one row of ints set -/
theorem r_set {hp : amH} (hH : bHk 84 bTT hp) {q k : Nat} {dst w : List Int32} (hT : bTT q = some (32, k, [.inl (0, 4294967295)])) (h2 : hp[q]? = some (32, dst.map Value.int)) (hw : w.length = k) :
    bHk 84 bTT (hp.set q (32, w.map Value.int)) ∧ bFr [(q, 999)] hp (hp.set q (32, w.map Value.int)) ∧ ∀ i, i < k → rN (hp.set q (32, w.map Value.int)) q i = (w.getD i 0).toInt := by
  refine ⟨bHk_set hH hT ⟨rfl, by rw [List.length_map]; exact hw, fun j u hu => ⟨.inl (0, 4294967295), rfl, ?_⟩⟩, fun c j hc => ?_, fun i hi => ?_⟩
  · dsimp only at hu
    rw [List.getElem?_map] at hu
    obtain ⟨x, -, e⟩ := Option.map_eq_some_iff.mp hu
    exact ⟨x, e.symm, Nat.zero_le _, bOff_le x⟩
  · rw [bFld_set h2, if_neg]
    intro z
    subst z
    simp [bIn] at hc
    cases h9 : Nat.beq 999 j <;> rw [h9] at hc <;> cases hc
  · unfold rN
    rw [bFld_set h2, if_pos rfl]
    dsimp only
    rw [List.getElem?_map, List.getElem?_eq_getElem (by omega), List.getD_eq_getElem?_getD, List.getElem?_eq_getElem (by omega)]
    rfl
theorem r_row {hp : amH} (hH : bHk 84 bTT hp) {q k : Nat} (hq : q < 84) (hT : bTT q = some (32, k, [.inl (0, 4294967295)])) : ∃ w : List Int32, hp[q]? = some (32, w.map Value.int) ∧ w.length = k ∧ ∀ i, i < k → rN hp q i = (w.getD i 0).toInt := by
  obtain ⟨c, h1, h2⟩ := bHk_at hH hq hT
  obtain ⟨w, rfl, hw⟩ := r_ints h2
  refine ⟨w, h1, hw, fun i hi => ?_⟩
  unfold rN bFld
  rw [h1]
  dsimp only
  rw [List.getElem?_map, List.getElem?_eq_getElem (by omega), List.getD_eq_getElem?_getD, List.getElem?_eq_getElem (by omega)]
  rfl
/-- copies between two rows -/
theorem r_copy {hp : amH} (hH : bHk 84 bTT hp) {p q kp kq : Nat} (hp84 : p < 84) (hq84 : q < 84) (hpq : ¬ p = q) (hTp : bTT p = some (32, kp, [.inl (0, 4294967295)])) (hTq : bTT q = some (32, kq, [.inl (0, 4294967295)])) {a b n : Int32} {s0 d0 N : Nat} (ha : a.toInt = (s0 : Int)) (hb : b.toInt = (d0 : Int)) (hn : n.toInt = (N : Int)) (hs : s0 + N ≤ kp) (hd : d0 + N ≤ kq) (hk : kp ≤ 100000 ∧ kq ≤ 100000) (d : Nat) :
    ∃ hp1, amRun amGG none (15 * N + 12) d am_m198 am_m198.1 0 (lv_args 0 [.ref p, .int a, .ref q, .int b, .int n]) [] hp 0 0 = some (.inl none, hp1, 0, 0) ∧ bHk 84 bTT hp1 ∧ bFr [(q, 999)] hp hp1 ∧ ∀ i, i < kq → rN hp1 q i = if d0 ≤ i ∧ i < d0 + N then rN hp p (s0 + (i - d0)) else rN hp q i := by
  obtain ⟨src, e1, l1, r1⟩ := r_row hH hp84 hTp
  obtain ⟨dst, e2, l2, r2⟩ := r_row hH hq84 hTq
  have hc := m_copies_loop (G := amGG) hpq ha hb hn (by omega) (by omega) N 0 0 hp dst 0 d 0 0 (by omega) (by decide) e1 e2 (by omega) (by omega)
  simp only [Nat.add_zero] at hc
  have hlen : (cpy src s0 d0 N dst).length = kq := by rw [cpy_len, l2]
  obtain ⟨g1, g2, g3⟩ := r_set hH hTq e2 hlen
  refine ⟨_, ?_, g1, g2, fun i hi => ?_⟩
  · rw [Nat.zero_add] at hc
    rw [← hc, s198_0, show 15 * N + 12 = 15 * N + 10 + 2 by omega]
    simp [lv_args, Value.category, amRun, amDo, amStep, amNext, amSt1, isI_int, p198b, amSet1]
    rw [← s198_0, s198_3]
  · rw [g3 i hi, cpy_get _ _ _ _ _ _ (by omega)]
    split
    · next h => rw [r1 _ (by omega)]
    · rw [r2 i hi]
theorem r_fr {W : List (Nat × Nat)} {hp hp1 : amH} (h : bFr W hp hp1) {c i : Nat} (hc : bIn W c i = false) : rN hp1 c i = rN hp c i := rN_eq (h c i hc)
