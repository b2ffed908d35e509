/-! ===== the reference: whole rows copied ===== -/
theorem cpy_get (src : List Int32) : ∀ (n s0 d0 : Nat) (dst : List Int32) (i : Nat), d0 + n ≤ dst.length → (cpy src s0 d0 n dst).getD i 0 = if d0 ≤ i ∧ i < d0 + n then src.getD (s0 + (i - d0)) 0 else dst.getD i 0
  | 0, s0, d0, dst, i, _ => by
    rw [if_neg (by omega)]
    rfl
  | n + 1, s0, d0, dst, i, h => by
    unfold cpy
    rw [cpy_get src n (s0 + 1) (d0 + 1) _ i (by rw [List.length_set]; omega)]
    by_cases h1 : d0 + 1 ≤ i ∧ i < d0 + 1 + n
    · rw [if_pos h1, if_pos (by omega)]
      congr 1
      omega
    · rw [if_neg h1]
      by_cases h2 : i = d0
      · subst h2
        rw [if_pos (by omega), Nat.sub_self, Nat.add_zero, List.getD_eq_getElem?_getD, List.getElem?_set_self (by omega)]
        rfl
      · rw [if_neg (by omega), List.getD_eq_getElem?_getD, List.getElem?_set_ne (fun z => h2 z.symm), ← List.getD_eq_getElem?_getD]
theorem s198_0 : am_m198.1 = (0, .iconst 0, 0, 0) :: (1, .istore 5, 0, 0) :: amSeek am_m198.1 3 := rfl
/-- a heap of the types, one row of ints set -/
theorem r_set {hp : amH} (hH : bHk 84 bTT hp) {q k : Nat} {dst w : List Int32} (hT : bTT q = some (32, k, [.inl (0, 4294967295)])) (h2 : hp[q]? = some (32, dst.map Value.int)) (hw : w.length = k) :
    bHk 84 bTT (hp.set q (32, w.map Value.int)) ∧ bFr [(q, 999)] hp (hp.set q (32, w.map Value.int)) ∧ ∀ i, i < k → rN (hp.set q (32, w.map Value.int)) q i = (w.getD i 0).toInt := by
  refine ⟨bHk_set hH hT ⟨rfl, by rw [List.length_map]; exact hw, fun j u hu => ⟨.inl (0, 4294967295), rfl, ?_⟩⟩, fun c j hc => ?_, fun i hi => ?_⟩
  · dsimp only at hu
    rw [List.getElem?_map] at hu
    obtain ⟨x, -, e⟩ := Option.map_eq_some_iff.mp hu
    exact ⟨x, e.symm, Nat.zero_le _, bOff_le x⟩
  · rw [bFld_set h2, if_neg]
    intro z
    subst z
    simp [bIn] at hc
    cases h9 : Nat.beq 999 j <;> rw [h9] at hc <;> cases hc
  · unfold rN
    rw [bFld_set h2, if_pos rfl]
    dsimp only
    rw [List.getElem?_map, List.getElem?_eq_getElem (by omega), List.getD_eq_getElem?_getD, List.getElem?_eq_getElem (by omega)]
    rfl
theorem r_row {hp : amH} (hH : bHk 84 bTT hp) {q k : Nat} (hq : q < 84) (hT : bTT q = some (32, k, [.inl (0, 4294967295)])) : ∃ w : List Int32, hp[q]? = some (32, w.map Value.int) ∧ w.length = k ∧ ∀ i, i < k → rN hp q i = (w.getD i 0).toInt := by
  obtain ⟨c, h1, h2⟩ := bHk_at hH hq hT
  obtain ⟨w, rfl, hw⟩ := r_ints h2
  refine ⟨w, h1, hw, fun i hi => ?_⟩
  unfold rN bFld
  rw [h1]
  dsimp only
  rw [List.getElem?_map, List.getElem?_eq_getElem (by omega), List.getD_eq_getElem?_getD, List.getElem?_eq_getElem (by omega)]
  rfl
/-- copies between two rows -/
theorem r_copy {hp : amH} (hH : bHk 84 bTT hp) {p q kp kq : Nat} (hp84 : p < 84) (hq84 : q < 84) (hpq : ¬ p = q) (hTp : bTT p = some (32, kp, [.inl (0, 4294967295)])) (hTq : bTT q = some (32, kq, [.inl (0, 4294967295)])) {a b n : Int32} {s0 d0 N : Nat} (ha : a.toInt = (s0 : Int)) (hb : b.toInt = (d0 : Int)) (hn : n.toInt = (N : Int)) (hs : s0 + N ≤ kp) (hd : d0 + N ≤ kq) (hk : kp ≤ 100000 ∧ kq ≤ 100000) (d : Nat) :
    ∃ hp1, amRun amGG none (15 * N + 12) d am_m198 am_m198.1 0 (lv_args 0 [.ref p, .int a, .ref q, .int b, .int n]) [] hp 0 0 = some (.inl none, hp1, 0, 0) ∧ bHk 84 bTT hp1 ∧ bFr [(q, 999)] hp hp1 ∧ ∀ i, i < kq → rN hp1 q i = if d0 ≤ i ∧ i < d0 + N then rN hp p (s0 + (i - d0)) else rN hp q i := by
  obtain ⟨src, e1, l1, r1⟩ := r_row hH hp84 hTp
  obtain ⟨dst, e2, l2, r2⟩ := r_row hH hq84 hTq
  have hc := m_copies_loop (G := amGG) hpq ha hb hn (by omega) (by omega) N 0 0 hp dst 0 d 0 0 (by omega) (by decide) e1 e2 (by omega) (by omega)
  simp only [Nat.add_zero] at hc
  have hlen : (cpy src s0 d0 N dst).length = kq := by rw [cpy_len, l2]
  obtain ⟨g1, g2, g3⟩ := r_set hH hTq e2 hlen
  refine ⟨_, ?_, g1, g2, fun i hi => ?_⟩
  · rw [Nat.zero_add] at hc
    rw [← hc, s198_0, show 15 * N + 12 = 15 * N + 10 + 2 by omega]
    simp [lv_args, Value.category, amRun, amDo, amStep, amNext, amSt1, isI_int, p198b, amSet1]
    rw [← s198_0, s198_3]
  · rw [g3 i hi, cpy_get _ _ _ _ _ _ (by omega)]
    split
    · next h => rw [r1 _ (by omega)]
    · rw [r2 i hi]
theorem r_fr {W : List (Nat × Nat)} {hp hp1 : amH} (h : bFr W hp hp1) {c i : Nat} (hc : bIn W c i = false) : rN hp1 c i = rN hp c i := rN_eq (h c i hc)
def be_h198a : bEt := (198, ([.inr (.inr [67]), .inl (2147483648, 2147483648), .inr (.inr [69]), .inl (2147483648, 2147483648), .inl (2147483877, 2147483877)], [], 0, [(69, 999)], [], [(none, [(69, 0, 2147483651, 2147483663)])]), [], 0, [])
def be_h198b : bEt := (198, ([.inr (.inr [69]), .inl (2147483648, 2147483648), .inr (.inr [67]), .inl (2147483648, 2147483648), .inl (2147483877, 2147483877)], [(69, 0, 2147483651, 2147483663)], 0, [(67, 999)], [], [(none, [])]), [], 0, [])
theorem r_arg {x : Int32} {k : Nat} (h1 : 2147483648 + k ≤ aOff x) (h2 : aOff x ≤ 2147483648 + k) : x.toInt = (k : Int) := by
  have := aOff_eq x
  omega
theorem r_int {hp : amH} {c i : Nat} {x : Int32} (h : bFld hp c i = some (.int x)) : rN hp c i = x.toInt := by unfold rN; rw [h]
theorem r_fld {hp : amH} (hH : bHk 84 bTT hp) {q k i : Nat} (hq : q < 84) (hT : bTT q = some (32, k, [.inl (0, 4294967295)])) (hi : i < k) : ∃ x, bFld hp q i = some (.int x) ∧ rN hp q i = x.toInt := by
  obtain ⟨w, h1, h2, -⟩ := r_row hH hq hT
  have : bFld hp q i = some (.int w[i]) := by
    unfold bFld
    rw [h1]
    dsimp only
    rw [List.getElem?_map, List.getElem?_eq_getElem (by omega)]
    rfl
  exact ⟨_, this, r_int this⟩
theorem h198a_s : bSem amGG P0 84 bTT be_h198a.1 be_h198a.2.1 := by
  refine ⟨am_m198, rfl, fun av hp hH hP ha _ => ?_⟩
  match av, ha with
  | [v1, v2, v3, v4, v5], ha =>
    obtain ⟨⟨i, rfl, -, hi⟩, ⟨x2, rfl, a1, a2⟩, ⟨j, rfl, -, hj⟩, ⟨x4, rfl, b1, b2⟩, ⟨x5, rfl, c1, c2⟩, -⟩ := ha
    have hi : i = 67 := by simpa using hi
    have hj : j = 69 := by simpa using hj
    subst hi
    subst hj
    obtain ⟨hp1, h1, h2, h3, h4⟩ := r_copy hH (p := 67) (q := 69) (by decide) (by decide) (by decide) rfl rfl (a := x2) (b := x4) (n := x5) (s0 := 0) (d0 := 0) (N := 229) (r_arg (k := 0) a1 a2) (r_arg (k := 0) b1 b2) (r_arg (k := 229) c1 c2) (by decide) (by decide) (by decide) 0
    have e69 : ∀ i, i < 229 → rN hp1 69 i = rN hp 67 i := fun i hi => by rw [h4 i hi, if_pos (by omega), Nat.zero_add, Nat.sub_zero]
    have e67 : ∀ i, rN hp1 67 i = rN hp 67 i := fun i => r_fr h3 (by simp [bIn])
    have e70 : ∀ i, rN hp1 70 i = rN hp 70 i := fun i => r_fr h3 (by simp [bIn])
    have e71 : ∀ i, rN hp1 71 i = rN hp 71 i := fun i => r_fr h3 (by simp [bIn])
    have e66 : ∀ i, rN hp1 66 i = rN hp 66 i := fun i => r_fr h3 (by simp [bIn])
    have hV := hP.1
    refine ⟨_, _, _, h1, h2, ⟨Vf_eq (fun i _ => e67 i) hV, fun z => Vf_eq (fun i _ => e70 i) (hP.2.1 (by rw [← e66]; exact z)), fun k hk hk2 => Vf_eq (fun i _ => e71 _) (hP.2.2.1 k (by rw [← e66]; exact hk) hk2), fun _ => Vf_eq e69 hV⟩, h3, _, List.mem_cons_self, trivial, fun f hf => ?_⟩
    have hf : f = (69, 0, 2147483651, 2147483663) := by simpa using hf
    subst hf
    obtain ⟨x, g1, g2⟩ := r_fld h2 (q := 69) (i := 0) (by decide) rfl (by decide)
    refine ⟨x, g1, ?_⟩
    have := e69 0 (by omega)
    have := hV.1
    have := hV.2.1
    have := aOff_eq x
    dsimp only
    omega
theorem h198b_s : bSem amGG P0 84 bTT be_h198b.1 be_h198b.2.1 := by
  refine ⟨am_m198, rfl, fun av hp hH hP ha hf => ?_⟩
  match av, ha with
  | [v1, v2, v3, v4, v5], ha =>
    obtain ⟨⟨i, rfl, -, hi⟩, ⟨x2, rfl, a1, a2⟩, ⟨j, rfl, -, hj⟩, ⟨x4, rfl, b1, b2⟩, ⟨x5, rfl, c1, c2⟩, -⟩ := ha
    have hi : i = 69 := by simpa using hi
    have hj : j = 67 := by simpa using hj
    subst hi
    subst hj
    obtain ⟨x, g1, g2, g3⟩ := hf _ List.mem_cons_self
    have g4 := r_int g1
    have hV : Vf (rN hp 69) := hP.2.2.2 (by
      have := aOff_eq x
      dsimp only at g2 g4
      omega)
    obtain ⟨hp1, h1, h2, h3, h4⟩ := r_copy hH (p := 69) (q := 67) (by decide) (by decide) (by decide) rfl rfl (a := x2) (b := x4) (n := x5) (s0 := 0) (d0 := 0) (N := 229) (r_arg (k := 0) a1 a2) (r_arg (k := 0) b1 b2) (r_arg (k := 229) c1 c2) (by decide) (by decide) (by decide) 0
    have e67 : ∀ i, i < 229 → rN hp1 67 i = rN hp 69 i := fun i hi => by rw [h4 i hi, if_pos (by omega), Nat.zero_add, Nat.sub_zero]
    have e69 : ∀ i, rN hp1 69 i = rN hp 69 i := fun i => r_fr h3 (by simp [bIn])
    have e70 : ∀ i, rN hp1 70 i = rN hp 70 i := fun i => r_fr h3 (by simp [bIn])
    have e71 : ∀ i, rN hp1 71 i = rN hp 71 i := fun i => r_fr h3 (by simp [bIn])
    have e66 : ∀ i, rN hp1 66 i = rN hp 66 i := fun i => r_fr h3 (by simp [bIn])
    exact ⟨_, _, _, h1, h2, ⟨Vf_eq e67 hV, fun z => Vf_eq (fun i _ => e70 i) (hP.2.1 (by rw [← e66]; exact z)), fun k hk hk2 => Vf_eq (fun i _ => e71 _) (hP.2.2.1 k (by rw [← e66]; exact hk) hk2), fun _ => Vf_eq (fun i _ => e69 i) hV⟩, h3, _, List.mem_cons_self, trivial, fun f hf => by cases hf⟩
