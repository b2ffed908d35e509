/-! ##### qtd ##### -/
section
/-! ===== trades in a rising list ===== -/
def tdO (g : Nat → Nat) : Nat → Nat
  | 0 => 0
  | k + 1 => tdO g k ||| 2 ^ g k
theorem tdO_t {g : Nat → Nat} {u : Nat} : ∀ c, (tdO g c).testBit u = true ↔ ∃ k, k < c ∧ g k = u
  | 0 => by
    show (0 : Nat).testBit u = true ↔ _
    rw [Nat.zero_testBit]
    exact ⟨fun z => by cases z, fun ⟨k, hk, _⟩ => by omega⟩
  | c + 1 => by
    have ih := tdO_t (g := g) (u := u) c
    show (tdO g c ||| 2 ^ g c).testBit u = true ↔ _
    rw [Nat.testBit_or, Bool.or_eq_true, ih, Nat.testBit_two_pow, decide_eq_true_iff]
    constructor
    · intro z
      rcases z with ⟨k, k1, k2⟩ | e
      · exact ⟨k, by omega, k2⟩
      · exact ⟨c, by omega, e⟩
    · intro ⟨k, k1, k2⟩
      by_cases e : k = c
      · subst e; exact Or.inr k2
      · exact Or.inl ⟨k, by omega, k2⟩
theorem tdO_e {g : Nat → Nat} {c X : Nat} (h : ∀ u, X.testBit u = true ↔ ∃ k, k < c ∧ g k = u) : X = tdO g c := by
  apply Nat.eq_of_testBit_eq
  intro u
  have a := h u
  have b := tdO_t (g := g) (u := u) c
  cases q1 : X.testBit u <;> cases q2 : (tdO g c).testBit u
  · rfl
  · rw [q1] at a; rw [q2] at b; exact absurd (a.mpr (b.mp rfl)) (by decide)
  · rw [q1] at a; rw [q2] at b; exact absurd (b.mpr (a.mp rfl)) (by decide)
  · rfl
/-- the triples that a cycle replaces, as a mask of their numbers -/
def tdM (T : sT) (a b x : Nat) : Nat := tdO (fun k => li T (abS a b (pr2 false k)) (rk T a b x k)) (cyL T a b x)
def insL (m : Nat) : List Nat → List Nat
  | [] => [m]
  | y :: l => if y < m then y :: insL m l else if y = m then y :: l else m :: y :: l
theorem ins_in : ∀ (L : List Nat) (m k : Nat), k < L.length → (∀ i, i < k → L.getD i 0 < m) → L.getD k 0 = m → insL m L = L
  | [], _, k, hk, _, _ => (Nat.not_lt_zero k hk).elim
  | y :: l, m, 0, _, _, h => by
    have h : y = m := h
    show (if y < m then _ else if y = m then _ else _) = _
    rw [if_neg (by omega), if_pos h]
  | y :: l, m, k + 1, hk, hl, h => by
    have h0 : y < m := hl 0 (Nat.succ_pos k)
    show (if y < m then y :: insL m l else _) = _
    rw [if_pos h0, ins_in l m k (Nat.lt_of_succ_lt_succ hk) (fun i hi => hl (i + 1) (by omega)) h]
theorem ins_new : ∀ (L : List Nat) (m k : Nat), k ≤ L.length → (∀ i, i < k → L.getD i 0 < m) → (k < L.length → m < L.getD k 0) → insL m L = L.take k ++ m :: L.drop k
  | [], _, 0, _, _, _ => rfl
  | [], _, k + 1, hk, _, _ => (Nat.not_succ_le_zero k hk).elim
  | y :: l, m, 0, _, _, h => by
    have h : m < y := h (Nat.succ_pos _)
    show (if y < m then _ else if y = m then _ else _) = _
    rw [if_neg (by omega), if_neg (by omega)]
    rfl
  | y :: l, m, k + 1, hk, hl, h => by
    have h0 : y < m := hl 0 (Nat.succ_pos k)
    show (if y < m then y :: insL m l else _) = _
    rw [if_pos h0, ins_new l m k (Nat.le_of_succ_le_succ hk) (fun i hi => hl (i + 1) (by omega)) (fun z => h (Nat.succ_lt_succ z))]
    rfl
theorem ins_get : ∀ (L : List Nat) (m k i : Nat), k ≤ L.length → (L.take k ++ m :: L.drop k).getD i 0 = if i < k then L.getD i 0 else if i = k then m else L.getD (i - 1) 0
  | L, m, 0, 0, _ => by rw [if_neg (by omega), if_pos rfl]; rfl
  | L, m, 0, i + 1, _ => by rw [if_neg (by omega), if_neg (by omega)]; rfl
  | [], _, k + 1, _, hk => (Nat.not_succ_le_zero k hk).elim
  | y :: l, m, k + 1, 0, _ => by rw [if_pos (by omega)]; rfl
  | y :: l, m, k + 1, i + 1, hk => by
    have ih := ins_get l m k i (Nat.le_of_succ_le_succ hk)
    show (l.take k ++ m :: l.drop k).getD i 0 = _
    rw [ih]
    by_cases h1 : i < k
    · rw [if_pos h1, if_pos (show i + 1 < k + 1 by omega)]; rfl
    · rw [if_neg h1, if_neg (show ¬ i + 1 < k + 1 by omega)]
      by_cases h2 : i = k
      · rw [if_pos h2, if_pos (show i + 1 = k + 1 by omega)]
      · rw [if_neg h2, if_neg (show ¬ i + 1 = k + 1 by omega)]
        obtain ⟨j, rfl⟩ : ∃ j, i = j + 1 := ⟨i - 1, by omega⟩
        rfl
theorem ins_len {L : List Nat} {m k : Nat} (hk : k ≤ L.length) : (L.take k ++ m :: L.drop k).length = L.length + 1 := by
  rw [List.length_append, List.length_cons, List.length_take, List.length_drop]
  omega
abbrev srt (L : List Nat) : Prop := ∀ i j, i < j → j < L.length → L.getD i 0 < L.getD j 0
theorem srt_new {L : List Nat} {m k : Nat} (hs : srt L) (hk : k ≤ L.length) (h1 : ∀ i, i < k → L.getD i 0 < m) (h2 : k < L.length → m < L.getD k 0) : srt (L.take k ++ m :: L.drop k) := by
  intro i j hij hj
  rw [ins_len hk] at hj
  rw [ins_get L m k i hk, ins_get L m k j hk]
  by_cases a1 : i < k
  · rw [if_pos a1]
    by_cases b1 : j < k
    · rw [if_pos b1]; exact hs i j hij (by omega)
    · rw [if_neg b1]
      by_cases b2 : j = k
      · rw [if_pos b2]; exact h1 i a1
      · rw [if_neg b2]; exact hs i (j - 1) (by omega) (by omega)
  · rw [if_neg a1, if_neg (show ¬ j < k by omega), if_neg (show ¬ j = k by omega)]
    by_cases a2 : i = k
    · rw [if_pos a2]
      have q := h2 (by omega)
      by_cases b : j - 1 = k
      · rw [b]; exact q
      · exact Nat.lt_trans q (hs k (j - 1) (by omega) (by omega))
    · rw [if_neg a2]; exact hs (i - 1) (j - 1) (by omega) (by omega)
theorem ins_pos : ∀ (L : List Nat) (m : Nat), ∃ k, k ≤ L.length ∧ (∀ i, i < k → L.getD i 0 < m) ∧ (k < L.length → m ≤ L.getD k 0)
  | [], _ => ⟨0, Nat.le_refl _, fun i hi => by omega, fun z => (Nat.not_lt_zero _ z).elim⟩
  | y :: l, m => by
    by_cases g : y < m
    · obtain ⟨k, k1, k2, k3⟩ := ins_pos l m
      refine ⟨k + 1, Nat.succ_le_succ k1, fun i hi => ?_, fun z => k3 (Nat.lt_of_succ_lt_succ z)⟩
      match i, hi with
      | 0, _ => exact g
      | i + 1, hi => exact k2 i (by omega)
    · exact ⟨0, Nat.zero_le _, fun i hi => by omega, fun _ => by show m ≤ y; omega⟩
theorem srt_ins {L : List Nat} {m : Nat} (hs : srt L) : srt (insL m L) ∧ (insL m L).length ≤ L.length + 1 := by
  obtain ⟨k, k1, k2, k3⟩ := ins_pos L m
  by_cases g : k < L.length ∧ L.getD k 0 = m
  · rw [ins_in L m k g.1 k2 g.2]; exact ⟨hs, by omega⟩
  · have k4 : k < L.length → m < L.getD k 0 := fun z => by have := k3 z; have : ¬ L.getD k 0 = m := fun w => g ⟨z, w⟩; omega
    rw [ins_new L m k k1 k2 k4]
    exact ⟨srt_new hs k1 k2 k4, by rw [ins_len k1]; omega⟩
/-- the trades of a volume among some cycles of two points -/
def tdG (T : sT) (L : Int) (a b : Nat) (S : List Nat) (l : List Nat) : List Nat := l.foldl (fun S x => if ((cyL T a b x : Nat) : Int) = L then insL (tdM T a b x) S else S) S
theorem tdG_1 {T : sT} {L : Int} {a b x : Nat} {S l : List Nat} (h : ((cyL T a b x : Nat) : Int) = L) : tdG T L a b S (l ++ [x]) = insL (tdM T a b x) (tdG T L a b S l) := by
  unfold tdG
  rw [List.foldl_append]
  show (if _ then _ else _) = _
  rw [if_pos h]
theorem tdG_0 {T : sT} {L : Int} {a b x : Nat} {S l : List Nat} (h : ¬ ((cyL T a b x : Nat) : Int) = L) : tdG T L a b S (l ++ [x]) = tdG T L a b S l := by
  unfold tdG
  rw [List.foldl_append]
  show (if _ then _ else _) = _
  rw [if_neg h]
theorem tdG_s {T : sT} {L : Int} {a b : Nat} : ∀ (l S : List Nat), srt S → srt (tdG T L a b S l) ∧ (tdG T L a b S l).length ≤ S.length + l.length
  | [], S, h => ⟨h, Nat.le_refl _⟩
  | x :: l, S, h => by
    have e : tdG T L a b S (x :: l) = tdG T L a b (if ((cyL T a b x : Nat) : Int) = L then insL (tdM T a b x) S else S) l := rfl
    rw [e, List.length_cons]
    by_cases g : ((cyL T a b x : Nat) : Int) = L
    · rw [if_pos g]
      have k := srt_ins (m := tdM T a b x) h
      have q := tdG_s (T := T) (L := L) (a := a) (b := b) l _ k.1
      exact ⟨q.1, by omega⟩
    · rw [if_neg g]
      have q := tdG_s (T := T) (L := L) (a := a) (b := b) l _ h
      exact ⟨q.1, by omega⟩
def tdL (V : Nat) (T : sT) (L : Int) : Nat → List Nat
  | 0 => []
  | n + 1 => if n / 15 < n % 15 ∧ n % 15 < V then tdG T L (n / 15) (n % 15) (tdL V T L n) (cyS T (n / 15) (n % 15) V) else tdL V T L n
theorem tdL_u {V : Nat} {T : sT} {L : Int} (n : Nat) : tdL V T L (n + 1) = if n / 15 < n % 15 ∧ n % 15 < V then tdG T L (n / 15) (n % 15) (tdL V T L n) (cyS T (n / 15) (n % 15) V) else tdL V T L n := rfl
theorem tdL_no {V : Nat} {T : sT} {L : Int} (n : Nat) : ∀ k, (∀ j, n ≤ j → j < n + k → ¬ (j / 15 < j % 15 ∧ j % 15 < V)) → tdL V T L (n + k) = tdL V T L n
  | 0, _ => rfl
  | k + 1, h => by
    rw [← tdL_no n k (fun j h1 h2 => h j h1 (by omega))]
    show tdL V T L (n + k + 1) = _
    rw [tdL_u, if_neg (h (n + k) (by omega) (by omega))]
theorem tdL_st {V a b : Nat} {T : sT} {L : Int} (hb : b < 15) (h : a < b ∧ b < V) : tdL V T L (15 * a + (b + 1)) = tdG T L a b (tdL V T L (15 * a + b)) (cyS T a b V) := by
  show tdL V T L (15 * a + b + 1) = _
  rw [tdL_u, show (15 * a + b) / 15 = a by omega, show (15 * a + b) % 15 = b by omega, if_pos h]
theorem tdL_row {V a b : Nat} {T : sT} {L : Int} (hV : V ≤ 15) (hb : V = b) : tdL V T L (15 * (a + 1)) = tdL V T L (15 * a + b) := by
  rw [← hb, show 15 * (a + 1) = 15 * a + V + (15 - V) by omega]
  exact tdL_no _ _ (fun k k1 k2 => fun z => by omega)
theorem tdL_beg {V a : Nat} {T : sT} {L : Int} : tdL V T L (15 * a + (a + 1)) = tdL V T L (15 * a) :=
  tdL_no _ _ (fun k k1 k2 => fun z => by omega)
theorem tdL_end {V a : Nat} {T : sT} {L : Int} (hV : V ≤ 15) (ha : V = a) : tdL V T L 225 = tdL V T L (15 * a) := by
  rw [← ha, show 225 = 15 * V + (225 - 15 * V) by omega]
  exact tdL_no _ _ (fun k k1 k2 => fun z => by omega)
def pcN (V n : Nat) : Nat := sm (fun m => iv (m / 15 < m % 15 ∧ m % 15 < V)) n
theorem cyS_3 {V a b : Nat} {T : sT} (hT : sOk V T) (h : a < b ∧ b < V) : (cyS T a b V).length ≤ 3 := by
  obtain ⟨y1, y2, -⟩ := cy_15 (T := T) (n := V) hT (show a < V by omega) h.2 (by omega) (Nat.le_refl V)
  omega
theorem tdL_s {V : Nat} {T : sT} {L : Int} (hT : sOk V T) : ∀ n, srt (tdL V T L n) ∧ (tdL V T L n).length ≤ 3 * pcN V n
  | 0 => ⟨fun i j hi hj => (Nat.not_lt_zero _ hj).elim, Nat.zero_le _⟩
  | n + 1 => by
    have ih := tdL_s (L := L) hT n
    have e : pcN V (n + 1) = pcN V n + iv (n / 15 < n % 15 ∧ n % 15 < V) := rfl
    rw [tdL_u]
    by_cases g : n / 15 < n % 15 ∧ n % 15 < V
    · rw [if_pos g]
      rw [iv_t (p := n / 15 < n % 15 ∧ n % 15 < V) g] at e
      have k := tdG_s (T := T) (L := L) (a := n / 15) (b := n % 15) (cyS T (n / 15) (n % 15) V) _ ih.1
      have c3 := cyS_3 hT g
      exact ⟨k.1, by omega⟩
    · rw [if_neg g]
      rw [iv_f (p := n / 15 < n % 15 ∧ n % 15 < V) g] at e
      exact ⟨ih.1, by omega⟩
theorem pcN_le (V n : Nat) : ∀ k, pcN V n ≤ pcN V (n + k)
  | 0 => Nat.le_refl _
  | k + 1 => Nat.le_trans (pcN_le V n k) (Nat.le_add_right _ _)
theorem pcN_105 : ∀ V : Fin 16, pcN V.1 225 ≤ 105 := by decide +kernel
theorem tdL_105 {V n : Nat} {T : sT} {L : Int} (hT : sOk V T) (hn : n ≤ 225) : (tdL V T L n).length ≤ 315 := by
  have h15 := hT.2.1
  have a := (tdL_s (L := L) hT n).2
  have b := pcN_le V n (225 - n)
  rw [show n + (225 - n) = 225 by omega] at b
  have c := pcN_105 ⟨V, by omega⟩
  have c : pcN V 225 ≤ 105 := c
  omega
theorem tdL_312 {V a b : Nat} {T : sT} {L : Int} (hT : sOk V T) (h : a < b ∧ b < V) : (tdL V T L (15 * a + b)).length ≤ 312 := by
  have h15 := hT.2.1
  have k := (tdL_s (L := L) hT (15 * a + b)).2
  have e : pcN V (15 * a + b + 1) = pcN V (15 * a + b) + iv ((15 * a + b) / 15 < (15 * a + b) % 15 ∧ (15 * a + b) % 15 < V) := rfl
  rw [iv_t (p := (15 * a + b) / 15 < (15 * a + b) % 15 ∧ (15 * a + b) % 15 < V) (by omega)] at e
  have d := pcN_le V (15 * a + b + 1) (225 - (15 * a + b + 1))
  rw [show 15 * a + b + 1 + (225 - (15 * a + b + 1)) = 225 by omega] at d
  have c := pcN_105 ⟨V, by omega⟩
  have c : pcN V 225 ≤ 105 := c
  omega
/-! ===== the class ===== -/
def tdC (hp : amH) (L : List Nat) : Prop := rN hp 56 0 = ((L.length : Nat) : Int) ∧ ∀ i, i < L.length → rJ hp 57 i = ((L.getD i 0 : Nat) : Int)
theorem u98 : bUp 0 am_m98.1 = true := by decide +kernel
theorem k_98E {d i : Nat} {L : List Nat} {hp : amH} {R : xQ} {a : Int32} (hH : bHk 84 bTT hp) (hC : tdC hp L) (h315 : L.length ≤ 315) (ha : a.toInt = (i : Int)) (hi : i < L.length)
    (hR : ∀ z : Int64, z.toInt = ((L.getD i 0 : Nat) : Int) → R (.inl (some (.long z))) hp) : xK d 98 [.ref 56, .int a] hp R := by
  have c0 := hC.1
  have et : a.toInt.toNat = i := by omega
  refine xin (M := am_m98) rfl rfl rfl ?_
  refine xild 1 ⟨u98, _, rfl⟩ rfl rfl ?_
  refine xif_lt 4 ⟨u98, _, rfl⟩ rfl (fun c1 => ?_) (fun c1 => ?_)
  · omega
  · refine xild 5 ⟨u98, _, rfl⟩ rfl rfl ?_
    refine xald 6 ⟨u98, _, rfl⟩ rfl rfl ?_
    refine xgetC 9 hH ⟨u98, _, rfl⟩ rfl (by decide) (by decide) rfl rfl (by decide) (fun z6 h6 => ?_)
    refine xcmp_ge 12 ⟨u98, _, rfl⟩ rfl (fun c9 => ?_) (fun c9 => ?_)
    · omega
    · refine xald 13 ⟨u98, _, rfl⟩ rfl rfl ?_
      refine xgetD 16 (57) hH ⟨u98, _, rfl⟩ rfl (by decide) (by decide) rfl rfl (by decide) ?_
      refine xild 17 ⟨u98, _, rfl⟩ rfl rfl ?_
      refine xlald 18 (a).toInt.toNat hH ⟨u98, _, rfl⟩ rfl (by decide) rfl (by omega) (by omega) (fun z17 h17 => ?_)
      refine xgoto ⟨u98, _, rfl⟩ ?_
      exact xretJ ⟨u98, _, rfl⟩ rfl (hR _ (by rw [h17, et]; exact hC.2 i hi))
theorem u97 : bUp 0 am_m97.1 = true := by decide +kernel
theorem l97a {d m : Nat} {L : List Nat} {hp : amH} {R : xQ} {z : Int64} (hH : bHk 84 bTT hp) (hC : tdC hp L) (l314 : L.length ≤ 314) (hz : z.toInt = (m : Int)) {v4 : Option Value}
    (hQ : ∀ (k : Nat) (wt : Int32), wt.toInt = (k : Int) → k ≤ L.length → (∀ i, i < k → L.getD i 0 < m) → (k < L.length → m ≤ L.getD k 0) → xV (d + 1) am_m97 26 [some (.ref 56), some (.long z), none, some (.int wt), v4] [] hp R) :
    ∀ (jj k : Nat) (wt : Int32), wt.toInt = (k : Int) → k + jj = L.length → (∀ i, i < k → L.getD i 0 < m) → xV (d + 1) am_m97 2 [some (.ref 56), some (.long z), none, some (.int wt), v4] [] hp R := by
  have c0 := hC.1
  intro jj
  induction jj with
  | zero =>
    intro k wt hwt hj hl
    refine xild 3 ⟨u97, _, rfl⟩ rfl rfl ?_
    refine xald 4 ⟨u97, _, rfl⟩ rfl rfl ?_
    refine xgetC 7 hH ⟨u97, _, rfl⟩ rfl (by decide) (by decide) rfl rfl (by decide) (fun z4 h4 => ?_)
    refine xcmp_ge 10 ⟨u97, _, rfl⟩ rfl (fun c7 => ?_) (fun c7 => ?_)
    · exact hQ k _ hwt (by omega) hl (fun w => by omega)
    · omega
  | succ jj ih =>
    intro k wt hwt hj hl
    refine xild 3 ⟨u97, _, rfl⟩ rfl rfl ?_
    refine xald 4 ⟨u97, _, rfl⟩ rfl rfl ?_
    refine xgetC 7 hH ⟨u97, _, rfl⟩ rfl (by decide) (by decide) rfl rfl (by decide) (fun z4 h4 => ?_)
    refine xcmp_ge 10 ⟨u97, _, rfl⟩ rfl (fun c7 => ?_) (fun c7 => ?_)
    · omega
    · refine xald 11 ⟨u97, _, rfl⟩ rfl rfl ?_
      refine xild 12 ⟨u97, _, rfl⟩ rfl rfl ?_
      refine xcallC 15 (o := 56) [.int _] [] hH ⟨u97, _, rfl⟩ rfl rfl (by decide) rfl (by decide) rfl ⟨rfl, rfl, rfl, rfl⟩ rfl (k_98E (i := k) hH hC (by omega) hwt (by omega) (fun z12 h12 => ⟨_, rfl, ?_⟩))
      refine xlld 16 ⟨u97, _, rfl⟩ rfl rfl ?_
      refine xlcmp 17 ⟨u97, _, rfl⟩ rfl (fun z16 h16 => ?_)
      refine xif_ge 20 ⟨u97, _, rfl⟩ rfl (fun c17 => ?_) (fun c17 => ?_)
      · exact hQ k _ hwt (by omega) hl (fun w => by omega)
      · refine xinc 23 (1) ⟨u97, _, rfl⟩ rfl rfl rfl (by decide) (by omega) (by omega) (fun z20 h20 => ?_)
        refine xgoto ⟨u97, _, rfl⟩ ?_
        exact ih (k + 1) _ (by omega) (by omega) (fun i hi => by
          by_cases e : i = k
          · rw [e]; omega
          · exact hl i (by omega))
theorem l97b {d m k : Nat} {L : List Nat} {hp : amH} {R : xQ} {z : Int64} {wt : Int32} (l314 : L.length ≤ 314) (hwt : wt.toInt = (k : Int)) (hk : k ≤ L.length)
    (hQ : ∀ (wi : Int32) hp1, bHk 84 bTT hp1 → bFx [57] hp hp1 → (∀ j, j < k → rJ hp1 57 j = ((L.getD j 0 : Nat) : Int)) → (∀ j, k < j → j ≤ L.length → rJ hp1 57 j = ((L.getD (j - 1) 0 : Nat) : Int)) → xV (d + 1) am_m97 91 [some (.ref 56), some (.long z), none, some (.int wt), some (.int wi)] [] hp1 R) :
    ∀ (jj i : Nat) (wi : Int32) (hp1 : amH), wi.toInt = (i : Int) → i = k + jj → i ≤ L.length → bHk 84 bTT hp1 → bFx [57] hp hp1 → (∀ j, j < i → rJ hp1 57 j = ((L.getD j 0 : Nat) : Int)) → (∀ j, i < j → j ≤ L.length → rJ hp1 57 j = ((L.getD (j - 1) 0 : Nat) : Int)) → xV (d + 1) am_m97 63 [some (.ref 56), some (.long z), none, some (.int wt), some (.int wi)] [] hp1 R := by
  intro jj
  induction jj with
  | zero =>
    intro i wi hp1 hwi hj hn hH hF h1 h2
    have ei : i = k := by omega
    rw [ei] at h1 h2
    refine xild2 65 ⟨u97, _, rfl⟩ rfl rfl ?_
    refine xild 66 ⟨u97, _, rfl⟩ rfl rfl ?_
    refine xcmp_le 69 ⟨u97, _, rfl⟩ rfl (fun c66 => ?_) (fun c66 => ?_)
    · exact hQ _ _ hH hF h1 h2
    · omega
  | succ jj ih =>
    intro i wi hp1 hwi hj hn hH hF h1 h2
    have e0 : i - 1 < i := by omega
    have e1 := h1 (i - 1) e0
    refine xild2 65 ⟨u97, _, rfl⟩ rfl rfl ?_
    refine xild 66 ⟨u97, _, rfl⟩ rfl rfl ?_
    refine xcmp_le 69 ⟨u97, _, rfl⟩ rfl (fun c66 => ?_) (fun c66 => ?_)
    · omega
    · refine xald 70 ⟨u97, _, rfl⟩ rfl rfl ?_
      refine xgetD 73 (57) hH ⟨u97, _, rfl⟩ rfl (by decide) (by decide) rfl rfl (by decide) ?_
      refine xild2 75 ⟨u97, _, rfl⟩ rfl rfl ?_
      refine xald 76 ⟨u97, _, rfl⟩ rfl rfl ?_
      refine xgetD 79 (57) hH ⟨u97, _, rfl⟩ rfl (by decide) (by decide) rfl rfl (by decide) ?_
      refine xild2 81 ⟨u97, _, rfl⟩ rfl rfl ?_
      refine xcst 82 (1) ⟨u97, _, rfl⟩ rfl (by decide) (fun z81 h81 => ?_)
      refine xsub 83 _ ⟨u97, _, rfl⟩ rfl rfl (by omega) (by omega) (fun z82 h82 => ?_)
      refine xlald 84 (z82).toInt.toNat hH ⟨u97, _, rfl⟩ rfl (by decide) rfl (by omega) (by omega) (fun z83 h83 => ?_)
      refine xlast 85 (wi).toInt.toNat hH ⟨u97, _, rfl⟩ rfl (by decide) rfl (by omega) (by omega) (fun hp84 hH84 U84 => ?_)
      refine xinc 88 (-1) ⟨u97, _, rfl⟩ rfl rfl rfl (by decide) (by omega) (by omega) (fun z85 h85 => ?_)
      refine xgoto ⟨u97, _, rfl⟩ ?_
      have J84 := rV_J U84
      have ek : z82.toInt.toNat = i - 1 := by omega
      exact ih (i - 1) _ _ (by omega) (by omega) (by omega) hH84 (hF.trans (bx_V U84 (by simp))) (fun j hj1 => by rw [rJ_eq (U84.2 57 j (by omega))]; exact h1 j (by omega)) (fun j hj1 hj2 => by
        by_cases q : j = i
        · subst q
          rw [show wi.toInt.toNat = j by omega] at J84
          rw [J84, h83, ek]; exact e1
        · rw [rJ_eq (U84.2 57 j (by omega))]; exact h2 j (by omega) hj2)
/-- the class puts a mask into the rising list -/
theorem k_97E {d m : Nat} {L : List Nat} {hp : amH} {R : xQ} {z : Int64} (hH : bHk 84 bTT hp) (hC : tdC hp L) (l314 : L.length ≤ 314) (hz : z.toInt = (m : Int))
    (hR : ∀ hp1, bHk 84 bTT hp1 → bFx [56, 57] hp hp1 → tdC hp1 (insL m L) → R (.inl none) hp1) : xK (d + 1) 97 [.ref 56, .long z] hp R := by
  have c0 := hC.1
  have fin : ∀ (k : Nat) (wt : Int32) (v4 : Option Value), wt.toInt = (k : Int) → k ≤ L.length → (∀ i, i < k → L.getD i 0 < m) → (k < L.length → m < L.getD k 0) → xV (d + 1) am_m97 57 [some (.ref 56), some (.long z), none, some (.int wt), v4] [] hp R := by
    intro k wt v4 hwt hk hl hg
    refine xald 58 ⟨u97, _, rfl⟩ rfl rfl ?_
    refine xgetC 61 hH ⟨u97, _, rfl⟩ rfl (by decide) (by decide) rfl rfl (by decide) (fun z58 h58 => ?_)
    refine xist2 63 ⟨u97, _, rfl⟩ rfl rfl ?_
    refine l97b (m := m) l314 hwt hk (fun wi hp1 g1 g2 g3 g4 => ?_) (L.length - k) L.length _ hp (by omega) (by omega) (Nat.le_refl _) hH bFx.refl hC.2 (fun j j1 j2 => by omega)
    have c1 : rN hp1 56 0 = ((L.length : Nat) : Int) := (bFx_n g2 (by simp)).trans c0
    refine xald 92 ⟨u97, _, rfl⟩ rfl rfl ?_
    refine xgetD 95 (57) g1 ⟨u97, _, rfl⟩ rfl (by decide) (by decide) rfl rfl (by decide) ?_
    refine xild 96 ⟨u97, _, rfl⟩ rfl rfl ?_
    refine xlld 97 ⟨u97, _, rfl⟩ rfl rfl ?_
    refine xlast 98 (wt).toInt.toNat g1 ⟨u97, _, rfl⟩ rfl (by decide) rfl (by omega) (by omega) (fun hp97 hH97 U97 => ?_)
    refine xald 99 ⟨u97, _, rfl⟩ rfl rfl ?_
    refine xdup 100 ⟨u97, _, rfl⟩ rfl rfl ?_
    refine xgetC 103 hH97 ⟨u97, _, rfl⟩ rfl (by decide) (by decide) rfl rfl (by decide) (fun z100 h100 => ?_)
    have c2 : rN hp97 56 0 = ((L.length : Nat) : Int) := (bFx_n (bx_V (W := [57]) U97 (by simp)) (by simp)).trans c1
    refine xcst 104 (1) ⟨u97, _, rfl⟩ rfl (by decide) (fun z103 h103 => ?_)
    refine xadd 105 _ ⟨u97, _, rfl⟩ rfl rfl (by omega) (by omega) (fun z104 h104 => ?_)
    refine xputC 108 hH97 ⟨u97, _, rfl⟩ rfl (by decide) (by decide) rfl rfl (by decide) ⟨rfl, rfl⟩ (by omega) (by omega) (fun hp105 hH105 U105 => ?_)
    have s105 := U105.1
    have J97 := rV_J U97
    rw [show wt.toInt.toNat = k by omega, hz] at J97
    have N97 : ∀ j, ¬ j = k → rJ hp97 57 j = rJ hp1 57 j := fun j hj => rJ_eq (U97.2 57 j (by omega))
    refine xretV ⟨u97, _, rfl⟩ rfl (hR _ hH105 ((g2.mono (by simp)).trans ((bx_V U97 (by simp)).trans (bFx_U U105 (by simp)))) ?_)
    rw [ins_new L m k hk hl hg]
    have N105 : ∀ j, rJ hp105 57 j = rJ hp97 57 j := fun j => rJ_eq (U105.2 57 j (by omega))
    refine ⟨by rw [ins_len hk, U105.1]; omega, fun i hi => ?_⟩
    rw [ins_len hk] at hi
    rw [N105, ins_get L m k i hk]
    by_cases q1 : i < k
    · rw [if_pos q1, N97 i (by omega)]; exact g3 i q1
    · rw [if_neg q1]
      by_cases q2 : i = k
      · rw [if_pos q2, q2]; exact J97
      · rw [if_neg q2, N97 i q2]; exact g4 i (by omega) (by omega)
  refine xin (M := am_m97) rfl rfl rfl ?_
  refine xcst 1 (0) ⟨u97, _, rfl⟩ rfl (by decide) (fun z0 h0 => ?_)
  refine xist 2 ⟨u97, _, rfl⟩ rfl rfl ?_
  refine xpad 1 ?_
  refine l97a hH hC l314 hz (fun k wt hwt hk hl hg => ?_) L.length 0 _ h0 (by omega) (fun i hi => by omega)
  refine xald 27 ⟨u97, _, rfl⟩ rfl rfl ?_
  refine xgetC 30 hH ⟨u97, _, rfl⟩ rfl (by decide) (by decide) rfl rfl (by decide) (fun z27 h27 => ?_)
  refine xald 31 ⟨u97, _, rfl⟩ rfl rfl ?_
  refine xgetD 34 (57) hH ⟨u97, _, rfl⟩ rfl (by decide) (by decide) rfl rfl (by decide) ?_
  refine xlen 35 hH ⟨u97, _, rfl⟩ rfl (by decide) rfl (by decide) (by decide) (fun z34 h34 => ?_)
  refine xcmp_ge 38 ⟨u97, _, rfl⟩ rfl (fun c35 => ?_) (fun c35 => ?_)
  · exact xretV ⟨u97, _, rfl⟩ rfl (hR _ hH bFx.refl (by rw [ins_in L m k (by omega) hl (by omega)]; exact hC))
  · refine xild 39 ⟨u97, _, rfl⟩ rfl rfl ?_
    refine xald 40 ⟨u97, _, rfl⟩ rfl rfl ?_
    refine xgetC 43 hH ⟨u97, _, rfl⟩ rfl (by decide) (by decide) rfl rfl (by decide) (fun z40 h40 => ?_)
    refine xcmp_ge 46 ⟨u97, _, rfl⟩ rfl (fun c43 => ?_) (fun c43 => ?_)
    · exact fin k _ _ hwt hk hl (fun w => by omega)
    · refine xald 47 ⟨u97, _, rfl⟩ rfl rfl ?_
      refine xild 48 ⟨u97, _, rfl⟩ rfl rfl ?_
      refine xcallC 51 (o := 56) [.int _] [] hH ⟨u97, _, rfl⟩ rfl rfl (by decide) rfl (by decide) rfl ⟨rfl, rfl, rfl, rfl⟩ rfl (k_98E (i := k) hH hC (by omega) hwt (by omega) (fun z48 h48 => ⟨_, rfl, ?_⟩))
      refine xlld 52 ⟨u97, _, rfl⟩ rfl rfl ?_
      refine xlcmp 53 ⟨u97, _, rfl⟩ rfl (fun z52 h52 => ?_)
      refine xif_ne 56 ⟨u97, _, rfl⟩ rfl (fun c53 => ?_) (fun c53 => ?_)
      · exact fin k _ _ hwt hk hl (fun w => by omega)
      · exact xretV ⟨u97, _, rfl⟩ rfl (hR _ hH bFx.refl (by rw [ins_in L m k (by omega) hl (by omega)]; exact hC))
theorem cyP_fx {hp hp1 : amH} {T : sT} {a b n : Nat} (F : bFx [56, 57] hp hp1) (P : cyP hp T a b n) : cyP hp1 T a b n := by
  obtain ⟨c1, c2, c3, c4, c5⟩ := P
  refine ⟨(bFx_n F (by simp)).trans c1, (bFx_n F (by simp)).trans c2, (bFx_n F (by simp)).trans c3, fun q hq => (bFx_n F (by simp)).trans (c4 q hq), fun q hq k hk => ⟨(bFx_n F (by simp)).trans (c5 q hq k hk).1, (rJ_eq (F 55 _ (by simp))).trans (c5 q hq k hk).2⟩⟩
theorem u96 : bUp 0 am_m96.1 = true := by decide +kernel
theorem l96E {d V a b : Nat} {T : sT} {S : List Nat} {hp0 : amH} {R : xQ} {wl : Int32} (hT : sOk V T) (h : a < b ∧ b < V) (hS : srt S) (hC0 : cyP hp0 T a b V) (h312 : S.length ≤ 312)
    (hR : ∀ hp1, bHk 84 bTT hp1 → bFx [56, 57] hp0 hp1 → tdC hp1 (tdG T wl.toInt a b S (cyS T a b V)) → R (.inl none) hp1) :
    ∀ (jj q : Nat) (wt : Int32) (hp : amH), wt.toInt = (q : Int) → q + jj = (cyS T a b V).length → bHk 84 bTT hp → bFx [56, 57] hp0 hp → tdC hp (tdG T wl.toInt a b S ((cyS T a b V).take q)) → xV (d + 2) am_m96 2 [some (.ref 56), some (.ref 52), some (.int wl), some (.int wt)] [] hp R := by
  have c3' := cyS_3 hT h
  obtain ⟨y1, y2, y3⟩ := cy_15 (T := T) (n := V) hT (show a < V by omega) h.2 (by omega) (Nat.le_refl V)
  intro jj
  induction jj with
  | zero =>
    intro q wt hp hwt hj hH hF hC
    obtain ⟨c1, c2, c3, c4, c5⟩ := cyP_fx hF hC0
    have eq : q = (cyS T a b V).length := by omega
    rw [eq, List.take_length] at hC
    refine xild 3 ⟨u96, _, rfl⟩ rfl rfl ?_
    refine xald 4 ⟨u96, _, rfl⟩ rfl rfl ?_
    refine xgetC 7 hH ⟨u96, _, rfl⟩ rfl (by decide) (by decide) rfl rfl (by decide) (fun z4 h4 => ?_)
    refine xcmp_ge 10 ⟨u96, _, rfl⟩ rfl (fun c7 => ?_) (fun c7 => ?_)
    · exact xretV ⟨u96, _, rfl⟩ rfl (hR _ hH hF hC)
    · omega
  | succ jj ih =>
    intro q wt hp hwt hj hH hF hC
    obtain ⟨c1, c2, c3, c4, c5⟩ := cyP_fx hF hC0
    have hq : q < (cyS T a b V).length := by omega
    have f1 := c4 q (by omega)
    have f2 := c4 (q + 1) (by omega)
    have f3 := offs_s (T := T) (a := a) (b := b) (L := cyS T a b V) (q := q)
    have f4 := y3 (q + 1) (by omega)
    have f5 := (tdG_s (T := T) (L := wl.toInt) (a := a) (b := b) ((cyS T a b V).take q) S hS).2
    rw [List.length_take] at f5
    have f6 := tk_succ hq
    refine xild 3 ⟨u96, _, rfl⟩ rfl rfl ?_
    refine xald 4 ⟨u96, _, rfl⟩ rfl rfl ?_
    refine xgetC 7 hH ⟨u96, _, rfl⟩ rfl (by decide) (by decide) rfl rfl (by decide) (fun z4 h4 => ?_)
    refine xcmp_ge 10 ⟨u96, _, rfl⟩ rfl (fun c7 => ?_) (fun c7 => ?_)
    · omega
    · refine xald 11 ⟨u96, _, rfl⟩ rfl rfl ?_
      refine xild 12 ⟨u96, _, rfl⟩ rfl rfl ?_
      refine xcallC 15 (o := 52) [.int _] [] hH ⟨u96, _, rfl⟩ rfl rfl (by decide) rfl (by decide) rfl ⟨rfl, rfl, rfl, rfl⟩ rfl (k_lngC hH (n := q) hwt (by omega) (by omega) (by omega) (by omega) (fun z12 h12 => ⟨_, rfl, ?_⟩))
      refine xild 16 ⟨u96, _, rfl⟩ rfl rfl ?_
      refine xcmp_ne 19 ⟨u96, _, rfl⟩ rfl (fun c16 => ?_) (fun c16 => ?_)
      · refine xinc 31 (1) ⟨u96, _, rfl⟩ rfl rfl rfl (by decide) (by omega) (by omega) (fun z28 h28 => ?_)
        refine xgoto ⟨u96, _, rfl⟩ ?_
        exact ih (q + 1) _ _ (by omega) (by omega) hH hF (by rw [f6, tdG_0 (by omega)]; exact hC)
      · refine xald 20 ⟨u96, _, rfl⟩ rfl rfl ?_
        refine xald 21 ⟨u96, _, rfl⟩ rfl rfl ?_
        refine xild 22 ⟨u96, _, rfl⟩ rfl rfl ?_
        refine xcallC 25 (o := 52) [.int _] [.ref 56] hH ⟨u96, _, rfl⟩ rfl rfl (by decide) rfl (by decide) rfl ⟨rfl, rfl, rfl, rfl⟩ rfl (k_trC (q := q) (B := offs T a b (cyS T a b V) q) (c := cyL T a b ((cyS T a b V).getD q 0)) (g := fun k => li T (abS a b (pr2 false k)) (rk T a b ((cyS T a b V).getD q 0) k)) hH hwt (by omega) f1 (by rw [f2, f3]) (by omega) (fun k hk => (c5 q hq k hk).2) (fun z22 X h22 x22 => ⟨_, rfl, ?_⟩))
        have e22 := tdO_e x22
        rw [e22] at h22
        refine xcallC 28 (o := 56) [.long _] [] hH ⟨u96, _, rfl⟩ rfl rfl (by decide) rfl (by decide) rfl ⟨rfl, rfl, rfl, rfl⟩ rfl (k_97E (m := tdM T a b ((cyS T a b V).getD q 0)) hH hC (by omega) h22 (fun hp25 hH25 F25 C25 => ⟨_, rfl, ?_⟩))
        refine xinc 31 (1) ⟨u96, _, rfl⟩ rfl rfl rfl (by decide) (by omega) (by omega) (fun z28 h28 => ?_)
        refine xgoto ⟨u96, _, rfl⟩ ?_
        exact ih (q + 1) _ _ (by omega) (by omega) hH25 (hF.trans F25) (by rw [f6, tdG_1 (by omega)]; exact C25)
theorem k_96E {d V a b : Nat} {T : sT} {S : List Nat} {hp : amH} {R : xQ} {wl : Int32} (hH : bHk 84 bTT hp) (hT : sOk V T) (h : a < b ∧ b < V) (hS : srt S) (hC0 : cyP hp T a b V) (h312 : S.length ≤ 312) (hC : tdC hp S)
    (hR : ∀ hp1, bHk 84 bTT hp1 → bFx [56, 57] hp hp1 → tdC hp1 (tdG T wl.toInt a b S (cyS T a b V)) → R (.inl none) hp1) : xK (d + 2) 96 [.ref 56, .ref 52, .int wl] hp R := by
  refine xin (M := am_m96) rfl rfl rfl ?_
  refine xcst 1 (0) ⟨u96, _, rfl⟩ rfl (by decide) (fun z0 h0 => ?_)
  refine xist 2 ⟨u96, _, rfl⟩ rfl rfl ?_
  exact l96E hT h hS hC0 h312 hR (cyS T a b V).length 0 _ _ h0 (by omega) hH bFx.refl hC
end
/-! ##### q35 ##### -/
section
/-! ===== trades on both sides ===== -/
theorem u95 : bUp 0 am_m95.1 = true := by decide +kernel
theorem l95i {d a V : Nat} {T : sT} {hp0 : amH} {R : xQ} {wa l : Int32} (hB0 : bdOk hp0 3 V T) (hL0 : lsN hp0 3 T 225) (ha : wa.toInt = (a : Int)) (aV : a < V)
    (hQ : ∀ (wb : Int32) (hp : amH), bHk 84 bTT hp → bFx [52, 53, 54, 55, 56, 57] hp0 hp → tdC hp (tdL V T l.toInt (15 * (a + 1))) → xV (d + 4) am_m95 53 [some (.ref 56), some (.ref 3), some (.ref 52), some (.int l), some (.int wa), some (.int wb)] [] hp R) :
    ∀ (jj b : Nat) (wb : Int32) (hp : amH), bHk 84 bTT hp → bFx [52, 53, 54, 55, 56, 57] hp0 hp → wb.toInt = (b : Int) → a < b → b + jj = V → tdC hp (tdL V T l.toInt (15 * a + b)) → xV (d + 4) am_m95 23 [some (.ref 56), some (.ref 3), some (.ref 52), some (.int l), some (.int wa), some (.int wb)] [] hp R := by
  intro jj
  induction jj with
  | zero =>
    intro b wb hp hH hF hb hab hj hC
    have hB : bdOk hp 3 V T := bdOk_fr hB0 (bFx_n hF (by simp)) (fun i => bFx_n hF (by simp)) (fun i => bFx_n hF (by simp))
    have hL : lsN hp 3 T 225 := lsN_fr hL0 (bFx_n hF (by simp)) (fun i => bFx_n hF (by simp)) (fun i => bFx_n hF (by simp))
    have h15 : V ≤ 15 := hB.2.1.2.1
    have b0 := hB.1
    have e := tdL_row (V := V) (a := a) (b := b) (T := T) (L := l.toInt) h15 (by omega)
    refine xild2 25 ⟨u95, _, rfl⟩ rfl rfl ?_
    refine xald 26 ⟨u95, _, rfl⟩ rfl rfl ?_
    refine xgetC 29 hH ⟨u95, _, rfl⟩ rfl (by decide) (by decide) rfl rfl (by decide) (fun z26 h26 => ?_)
    refine xcmp_ge 32 ⟨u95, _, rfl⟩ rfl (fun c29 => ?_) (fun c29 => ?_)
    · exact hQ _ _ hH hF (by rw [e]; exact hC)
    · omega
  | succ jj ih =>
    intro b wb hp hH hF hb hab hj hC
    have hB : bdOk hp 3 V T := bdOk_fr hB0 (bFx_n hF (by simp)) (fun i => bFx_n hF (by simp)) (fun i => bFx_n hF (by simp))
    have hL : lsN hp 3 T 225 := lsN_fr hL0 (bFx_n hF (by simp)) (fun i => bFx_n hF (by simp)) (fun i => bFx_n hF (by simp))
    have h15 : V ≤ 15 := hB.2.1.2.1
    have b0 := hB.1
    have s1 := tdL_st (V := V) (a := a) (b := b) (T := T) (L := l.toInt) (by omega) ⟨hab, by omega⟩
    have l312 := tdL_312 (T := T) (L := l.toInt) hB.2.1 (show a < b ∧ b < V from ⟨hab, by omega⟩)
    have hs := (tdL_s (L := l.toInt) hB.2.1 (15 * a + b)).1
    refine xild2 25 ⟨u95, _, rfl⟩ rfl rfl ?_
    refine xald 26 ⟨u95, _, rfl⟩ rfl rfl ?_
    refine xgetC 29 hH ⟨u95, _, rfl⟩ rfl (by decide) (by decide) rfl rfl (by decide) (fun z26 h26 => ?_)
    refine xcmp_ge 32 ⟨u95, _, rfl⟩ rfl (fun c29 => ?_) (fun c29 => ?_)
    · omega
    · refine xald 33 ⟨u95, _, rfl⟩ rfl rfl ?_
      refine xald 34 ⟨u95, _, rfl⟩ rfl rfl ?_
      refine xild2 36 ⟨u95, _, rfl⟩ rfl rfl ?_
      refine xild2 38 ⟨u95, _, rfl⟩ rfl rfl ?_
      refine xcallC 41 (o := 52) [.ref 3, .int _, .int _] [] hH ⟨u95, _, rfl⟩ rfl rfl (by decide) rfl (by decide) rfl ⟨rfl, rfl, rfl, rfl⟩ rfl (k_gaC hH hB hL (a := a) (b := b) (by omega) (by omega) (by omega) (by omega) (by omega) (fun hp38 hH38 F38 P38 => ⟨_, rfl, ?_⟩))
      have C38 : tdC hp38 (tdL V T l.toInt (15 * a + b)) := ⟨(bFx_n F38 (by simp)).trans hC.1, fun i hi => (rJ_eq (F38 57 i (by simp))).trans (hC.2 i hi)⟩
      refine xald 42 ⟨u95, _, rfl⟩ rfl rfl ?_
      refine xald 43 ⟨u95, _, rfl⟩ rfl rfl ?_
      refine xild 44 ⟨u95, _, rfl⟩ rfl rfl ?_
      refine xcallC 47 (o := 56) [.ref 52, .int _] [] hH38 ⟨u95, _, rfl⟩ rfl rfl (by decide) rfl (by decide) rfl ⟨rfl, rfl, rfl, rfl⟩ rfl (k_96E (S := tdL V T l.toInt (15 * a + b)) hH38 hB.2.1 (show a < b ∧ b < V from ⟨hab, by omega⟩) hs P38 l312 C38 (fun hp44 hH44 F44 C44 => ⟨_, rfl, ?_⟩))
      refine xinc 50 (1) ⟨u95, _, rfl⟩ rfl rfl rfl (by decide) (by omega) (by omega) (fun z47 h47 => ?_)
      refine xgoto ⟨u95, _, rfl⟩ ?_
      exact ih (b + 1) _ hp44 hH44 ((hF.trans (F38.mono (by simp; omega))).trans (F44.mono (by simp; omega))) (by omega) (by omega) (by omega) (by rw [s1]; exact C44)
theorem l95o {d V : Nat} {T : sT} {hp0 : amH} {R : xQ} {l : Int32} (hB0 : bdOk hp0 3 V T) (hL0 : lsN hp0 3 T 225)
    (hR : ∀ hp : amH, bHk 84 bTT hp → bFx [52, 53, 54, 55, 56, 57] hp0 hp → tdC hp (tdL V T l.toInt 225) → R (.inl none) hp) :
    ∀ (jj a : Nat) (wa : Int32) (v5 : Option Value) (hp : amH), bHk 84 bTT hp → bFx [52, 53, 54, 55, 56, 57] hp0 hp → wa.toInt = (a : Int) → a + jj = V → tdC hp (tdL V T l.toInt (15 * a)) → xV (d + 4) am_m95 8 [some (.ref 56), some (.ref 3), some (.ref 52), some (.int l), some (.int wa), v5] [] hp R := by
  intro jj
  induction jj with
  | zero =>
    intro a wa v5 hp hH hF ha hj hC
    have hB : bdOk hp 3 V T := bdOk_fr hB0 (bFx_n hF (by simp)) (fun i => bFx_n hF (by simp)) (fun i => bFx_n hF (by simp))
    have hL : lsN hp 3 T 225 := lsN_fr hL0 (bFx_n hF (by simp)) (fun i => bFx_n hF (by simp)) (fun i => bFx_n hF (by simp))
    have h15 : V ≤ 15 := hB.2.1.2.1
    have b0 := hB.1
    have e := tdL_end (V := V) (a := a) (T := T) (L := l.toInt) h15 (by omega)
    refine xild2 10 ⟨u95, _, rfl⟩ rfl rfl ?_
    refine xald 11 ⟨u95, _, rfl⟩ rfl rfl ?_
    refine xgetC 14 hH ⟨u95, _, rfl⟩ rfl (by decide) (by decide) rfl rfl (by decide) (fun z11 h11 => ?_)
    refine xcmp_ge 17 ⟨u95, _, rfl⟩ rfl (fun c14 => ?_) (fun c14 => ?_)
    · exact xretV ⟨u95, _, rfl⟩ rfl (hR _ hH hF (by rw [e]; exact hC))
    · omega
  | succ jj ih =>
    intro a wa v5 hp hH hF ha hj hC
    have hB : bdOk hp 3 V T := bdOk_fr hB0 (bFx_n hF (by simp)) (fun i => bFx_n hF (by simp)) (fun i => bFx_n hF (by simp))
    have hL : lsN hp 3 T 225 := lsN_fr hL0 (bFx_n hF (by simp)) (fun i => bFx_n hF (by simp)) (fun i => bFx_n hF (by simp))
    have h15 : V ≤ 15 := hB.2.1.2.1
    have b0 := hB.1
    have eb := tdL_beg (V := V) (a := a) (T := T) (L := l.toInt)
    refine xild2 10 ⟨u95, _, rfl⟩ rfl rfl ?_
    refine xald 11 ⟨u95, _, rfl⟩ rfl rfl ?_
    refine xgetC 14 hH ⟨u95, _, rfl⟩ rfl (by decide) (by decide) rfl rfl (by decide) (fun z11 h11 => ?_)
    refine xcmp_ge 17 ⟨u95, _, rfl⟩ rfl (fun c14 => ?_) (fun c14 => ?_)
    · omega
    · refine xild2 19 ⟨u95, _, rfl⟩ rfl rfl ?_
      refine xcst 20 (1) ⟨u95, _, rfl⟩ rfl (by decide) (fun z19 h19 => ?_)
      refine xadd 21 _ ⟨u95, _, rfl⟩ rfl rfl (by omega) (by omega) (fun z20 h20 => ?_)
      refine xist2 23 ⟨u95, _, rfl⟩ rfl rfl ?_
      refine l95i hB0 hL0 ha (by omega) (fun xb hp9 g0 g1 r1 => ?_) (V - (a + 1)) (a + 1) _ _ hH hF (by omega) (by omega) (by omega) (by rw [eb]; exact hC)
      refine xinc 56 (1) ⟨u95, _, rfl⟩ rfl rfl rfl (by decide) (by omega) (by omega) (fun z53 h53 => ?_)
      refine xgoto ⟨u95, _, rfl⟩ ?_
      exact ih (a + 1) _ _ _ g0 g1 (by omega) (by omega) r1
/-- the class gathers the trades of a volume -/
theorem k_95E {d V : Nat} {T : sT} {hp : amH} {R : xQ} {l : Int32} (hH : bHk 84 bTT hp) (hB : bdOk hp 3 V T) (hL : lsN hp 3 T 225)
    (hR : ∀ hp1 : amH, bHk 84 bTT hp1 → bFx [52, 53, 54, 55, 56, 57] hp hp1 → tdC hp1 (tdL V T l.toInt 225) → R (.inl none) hp1) : xK (d + 4) 95 [.ref 56, .ref 3, .ref 52, .int l] hp R := by
  refine xin (M := am_m95) rfl rfl rfl ?_
  refine xald 1 ⟨u95, _, rfl⟩ rfl rfl ?_
  refine xcst 2 (0) ⟨u95, _, rfl⟩ rfl (by decide) (fun z1 h1 => ?_)
  refine xputC 5 hH ⟨u95, _, rfl⟩ rfl (by decide) (by decide) rfl rfl (by decide) ⟨rfl, rfl⟩ (by omega) (by omega) (fun hp2 hH2 U2 => ?_)
  have s2 := U2.1
  refine xcst 6 (0) ⟨u95, _, rfl⟩ rfl (by decide) (fun z5 h5 => ?_)
  refine xist2 8 ⟨u95, _, rfl⟩ rfl rfl ?_
  refine xpad 1 ?_
  have F2 : bFx [52, 53, 54, 55, 56, 57] hp hp2 := bFx_U U2 (by simp)
  exact l95o hB hL hR V 0 _ _ hp2 hH2 F2 h5 (by omega) ⟨by rw [U2.1]; exact h1, fun i hi => (Nat.not_lt_zero i hi).elim⟩
theorem u146 : bUp 0 am_m146.1 = true := by decide +kernel
theorem k_146E {d V n : Nat} {h : Nat → sR} {sv : Option sR} {T : sT} {ty : Nat → Int} {hp : amH} {R : xQ} {a : Int32} (hH : bHk 84 bTT hp) (hS : clS hp (V, T, ty) n h sv)
    (hR : ∀ (z : Int32) hp1, bHk 84 bTT hp1 → cF hp hp1 → clS hp1 (V, T, ty) n h sv → z.toInt = (((tdL V T a.toInt 225).length : Nat) : Int) → R (.inl (some (.int z))) hp1) : xK (d + 6) 146 [.ref 0, .int a] hp R := by
  have hB : bdOk hp 3 V T := hS.1
  have b0 : rN hp 3 0 = (V : Int) := hB.1
  have hL : lsN hp 3 T 225 := hS.2.1
  have b1 : rN hp 3 1 = (((trL T 225).length : Nat) : Int) := hL.1
  have hT0 : sOk V T := hB.2.1
  have h15 : V ≤ 15 := hT0.2.1
  have l35 : (trL T 225).length ≤ 35 := trL_35 hT0 225
  have nq0 : rN hp 49 0 = ((nQ T : Nat) : Int) := hS.2.2.1.1
  refine xin (M := am_m146) rfl rfl rfl ?_
  refine xald 1 ⟨u146, _, rfl⟩ rfl rfl ?_
  refine xgetD 4 (56) hH ⟨u146, _, rfl⟩ rfl (by decide) (by decide) rfl rfl (by decide) ?_
  refine xald 5 ⟨u146, _, rfl⟩ rfl rfl ?_
  refine xgetD 8 (3) hH ⟨u146, _, rfl⟩ rfl (by decide) (by decide) rfl rfl (by decide) ?_
  refine xald 9 ⟨u146, _, rfl⟩ rfl rfl ?_
  refine xgetD 12 (52) hH ⟨u146, _, rfl⟩ rfl (by decide) (by decide) rfl rfl (by decide) ?_
  refine xild 13 ⟨u146, _, rfl⟩ rfl rfl ?_
  refine xcallC 16 (o := 56) [.ref 3, .ref 52, .int _] [] hH ⟨u146, _, rfl⟩ rfl rfl (by decide) rfl (by decide) rfl ⟨rfl, rfl, rfl, rfl⟩ rfl (k_95E hH hB hL (fun hp13 hH13 F13 C13 => ⟨_, rfl, ?_⟩))
  have c13 := C13.1
  refine xald 17 ⟨u146, _, rfl⟩ rfl rfl ?_
  refine xgetD 20 (56) hH13 ⟨u146, _, rfl⟩ rfl (by decide) (by decide) rfl rfl (by decide) ?_
  refine xgetC 23 hH13 ⟨u146, _, rfl⟩ rfl (by decide) (by decide) rfl rfl (by decide) (fun z20 h20 => ?_)
  exact xret ⟨u146, _, rfl⟩ rfl (hR _ hp13 hH13 (cF_x F13 (by simp)) (clS_8 hS (fun c k hc => F13 c k (by simp; omega))) (by rw [h20]; exact c13))
/-! ===== the reference's trades ===== -/
def tdR (hp : amH) (L : List Nat) : Prop := rN hp 66 19 = ((L.length : Nat) : Int) ∧ ∀ i, i < L.length → rJ hp 79 i = ((L.getD i 0 : Nat) : Int)
theorem u231 : bUp 0 am_m231.1 = true := by decide +kernel
theorem l231a {d m : Nat} {L : List Nat} {hp : amH} {R : xQ} {z : Int64} (hH : bHk 84 bTT hp) (hC : tdR hp L) (l314 : L.length ≤ 314) (hz : z.toInt = (m : Int)) {v4 : Option Value}
    (hQ : ∀ (k : Nat) (wt : Int32), wt.toInt = (k : Int) → k ≤ L.length → (∀ i, k ≤ i → i < L.length → m < L.getD i 0) → (0 < k → L.getD (k - 1) 0 ≤ m) → xV d am_m231 28 [some (.ref 66), some (.long z), none, some (.int wt), v4] [] hp R) :
    ∀ (k : Nat) (wt : Int32), wt.toInt = (k : Int) → k ≤ L.length → (∀ i, k ≤ i → i < L.length → m < L.getD i 0) → xV d am_m231 5 [some (.ref 66), some (.long z), none, some (.int wt), v4] [] hp R := by
  intro k
  induction k with
  | zero =>
    intro wt hwt hj hl
    refine xild 6 ⟨u231, _, rfl⟩ rfl rfl ?_
    refine xif_le 9 ⟨u231, _, rfl⟩ rfl (fun c6 => ?_) (fun c6 => ?_)
    · exact hQ 0 _ hwt hj hl (fun w => by omega)
    · omega
  | succ k ih =>
    intro wt hwt hj hl
    have e1 := hC.2 k (by omega)
    refine xild 6 ⟨u231, _, rfl⟩ rfl rfl ?_
    refine xif_le 9 ⟨u231, _, rfl⟩ rfl (fun c6 => ?_) (fun c6 => ?_)
    · omega
    · refine xald 10 ⟨u231, _, rfl⟩ rfl rfl ?_
      refine xgetR 13 79 hH ⟨u231, _, rfl⟩ rfl rfl ?_
      refine xild 14 ⟨u231, _, rfl⟩ rfl rfl ?_
      refine xcst 15 (1) ⟨u231, _, rfl⟩ rfl (by decide) (fun z14 h14 => ?_)
      refine xsub 16 _ ⟨u231, _, rfl⟩ rfl rfl (by omega) (by omega) (fun z15 h15 => ?_)
      refine xlald 17 (z15).toInt.toNat hH ⟨u231, _, rfl⟩ rfl (by decide) rfl (by omega) (by omega) (fun z16 h16 => ?_)
      have ek : z14.toInt.toNat = k := by omega
      rw [ek] at h16
      refine xlld 18 ⟨u231, _, rfl⟩ rfl rfl ?_
      refine xlcmp 19 ⟨u231, _, rfl⟩ rfl (fun z18 h18 => ?_)
      refine xif_le 22 ⟨u231, _, rfl⟩ rfl (fun c19 => ?_) (fun c19 => ?_)
      · exact hQ (k + 1) _ hwt hj hl (fun w => by rw [Nat.add_sub_cancel]; omega)
      · refine xinc 25 (-1) ⟨u231, _, rfl⟩ rfl rfl rfl (by decide) (by omega) (by omega) (fun z22 h22 => ?_)
        refine xgoto ⟨u231, _, rfl⟩ ?_
        exact ih _ (by omega) (by omega) (fun i i1 i2 => by
          by_cases e : i = k
          · rw [e]; omega
          · exact hl i (by omega) i2)
theorem l231b {d k : Nat} {L : List Nat} {hp : amH} {R : xQ} {z : Int64} {wt : Int32} (l314 : L.length ≤ 314) (hwt : wt.toInt = (k : Int)) (hk : k ≤ L.length)
    (hQ : ∀ (wi : Int32) hp1, bHk 84 bTT hp1 → bFr [(79, 999)] hp hp1 → (∀ j, j < k → rJ hp1 79 j = ((L.getD j 0 : Nat) : Int)) → (∀ j, k < j → j ≤ L.length → rJ hp1 79 j = ((L.getD (j - 1) 0 : Nat) : Int)) → xV d am_m231 90 [some (.ref 66), some (.long z), none, some (.int wt), some (.int wi)] [] hp1 R) :
    ∀ (jj i : Nat) (wi : Int32) (hp1 : amH), wi.toInt = (i : Int) → i = k + jj → i ≤ L.length → bHk 84 bTT hp1 → bFr [(79, 999)] hp hp1 → (∀ j, j < i → rJ hp1 79 j = ((L.getD j 0 : Nat) : Int)) → (∀ j, i < j → j ≤ L.length → rJ hp1 79 j = ((L.getD (j - 1) 0 : Nat) : Int)) → xV d am_m231 62 [some (.ref 66), some (.long z), none, some (.int wt), some (.int wi)] [] hp1 R := by
  intro jj
  induction jj with
  | zero =>
    intro i wi hp1 hwi hj hn hH hF h1 h2
    have ei : i = k := by omega
    rw [ei] at h1 h2
    refine xild2 64 ⟨u231, _, rfl⟩ rfl rfl ?_
    refine xild 65 ⟨u231, _, rfl⟩ rfl rfl ?_
    refine xcmp_le 68 ⟨u231, _, rfl⟩ rfl (fun c65 => ?_) (fun c65 => ?_)
    · exact hQ _ _ hH hF h1 h2
    · omega
  | succ jj ih =>
    intro i wi hp1 hwi hj hn hH hF h1 h2
    have e0 : i - 1 < i := by omega
    have e1 := h1 (i - 1) e0
    refine xild2 64 ⟨u231, _, rfl⟩ rfl rfl ?_
    refine xild 65 ⟨u231, _, rfl⟩ rfl rfl ?_
    refine xcmp_le 68 ⟨u231, _, rfl⟩ rfl (fun c65 => ?_) (fun c65 => ?_)
    · omega
    · refine xald 69 ⟨u231, _, rfl⟩ rfl rfl ?_
      refine xgetR 72 79 hH ⟨u231, _, rfl⟩ rfl rfl ?_
      refine xild2 74 ⟨u231, _, rfl⟩ rfl rfl ?_
      refine xald 75 ⟨u231, _, rfl⟩ rfl rfl ?_
      refine xgetR 78 79 hH ⟨u231, _, rfl⟩ rfl rfl ?_
      refine xild2 80 ⟨u231, _, rfl⟩ rfl rfl ?_
      refine xcst 81 (1) ⟨u231, _, rfl⟩ rfl (by decide) (fun z80 h80 => ?_)
      refine xsub 82 _ ⟨u231, _, rfl⟩ rfl rfl (by omega) (by omega) (fun z81 h81 => ?_)
      refine xlald 83 (z81).toInt.toNat hH ⟨u231, _, rfl⟩ rfl (by decide) rfl (by omega) (by omega) (fun z82 h82 => ?_)
      refine xlast 84 (wi).toInt.toNat hH ⟨u231, _, rfl⟩ rfl (by decide) rfl (by omega) (by omega) (fun hp83 hH83 U83 => ?_)
      refine xinc 87 (-1) ⟨u231, _, rfl⟩ rfl rfl rfl (by decide) (by omega) (by omega) (fun z84 h84 => ?_)
      refine xgoto ⟨u231, _, rfl⟩ ?_
      have J83 := rV_J U83
      have ek : z81.toInt.toNat = i - 1 := by omega
      exact ih (i - 1) _ _ (by omega) (by omega) (by omega) hH83 (hF.trans (rV_fr U83 rfl)) (fun j hj1 => by rw [rJ_eq (U83.2 79 j (by omega))]; exact h1 j (by omega)) (fun j hj1 hj2 => by
        by_cases q : j = i
        · subst q
          rw [show wi.toInt.toNat = j by omega] at J83
          rw [J83, h82, ek]; exact e1
        · rw [rJ_eq (U83.2 79 j (by omega))]; exact h2 j (by omega) hj2)
theorem k_231E {d m : Nat} {L : List Nat} {hp : amH} {R : xQ} {z : Int64} (hH : bHk 84 bTT hp) (hC : tdR hp L) (l314 : L.length ≤ 314) (hz : z.toInt = (m : Int)) (hs : srt L)
    (hR : ∀ hp1, bHk 84 bTT hp1 → bFr [(66, 19), (79, 999)] hp hp1 → tdR hp1 (insL m L) → R (.inl none) hp1) : xK d 231 [.ref 66, .long z] hp R := by
  have c0 := hC.1
  have fin : ∀ (k : Nat) (wt : Int32) (v4 : Option Value), wt.toInt = (k : Int) → k ≤ L.length → (∀ i, i < k → L.getD i 0 < m) → (k < L.length → m < L.getD k 0) → xV d am_m231 45 [some (.ref 66), some (.long z), none, some (.int wt), v4] [] hp R := by
    intro k wt v4 hwt hk hl hg
    refine xald 46 ⟨u231, _, rfl⟩ rfl rfl ?_
    refine xgetI 49 hH ⟨u231, _, rfl⟩ rfl rfl (fun z46 h46 => ?_)
    refine xsip 52 (400) ⟨u231, _, rfl⟩ rfl (by decide) (fun z49 h49 => ?_)
    refine xcmp_ne 55 ⟨u231, _, rfl⟩ rfl (fun c52 => ?_) (fun c52 => ?_)
    · refine xald 57 ⟨u231, _, rfl⟩ rfl rfl ?_
      refine xgetI 60 hH ⟨u231, _, rfl⟩ rfl rfl (fun z57 h57 => ?_)
      refine xist2 62 ⟨u231, _, rfl⟩ rfl rfl ?_
      refine l231b l314 hwt hk (fun wi hp1 g1 g2 g3 g4 => ?_) (L.length - k) L.length _ hp (by omega) (by omega) (Nat.le_refl _) hH (bFr.refl _ _) hC.2 (fun j j1 j2 => by omega)
      have c1 : rN hp1 66 19 = ((L.length : Nat) : Int) := (r_fr g2 rfl).trans c0
      refine xald 91 ⟨u231, _, rfl⟩ rfl rfl ?_
      refine xgetR 94 79 g1 ⟨u231, _, rfl⟩ rfl rfl ?_
      refine xild 95 ⟨u231, _, rfl⟩ rfl rfl ?_
      refine xlld 96 ⟨u231, _, rfl⟩ rfl rfl ?_
      refine xlast 97 (wt).toInt.toNat g1 ⟨u231, _, rfl⟩ rfl (by decide) rfl (by omega) (by omega) (fun hp96 hH96 U96 => ?_)
      refine xald 98 ⟨u231, _, rfl⟩ rfl rfl ?_
      refine xdup 99 ⟨u231, _, rfl⟩ rfl rfl ?_
      refine xgetI 102 hH96 ⟨u231, _, rfl⟩ rfl rfl (fun z99 h99 => ?_)
      have c2 : rN hp96 66 19 = ((L.length : Nat) : Int) := (rV_ne U96 (by omega)).trans c1
      refine xcst 103 (1) ⟨u231, _, rfl⟩ rfl (by decide) (fun z102 h102 => ?_)
      refine xadd 104 _ ⟨u231, _, rfl⟩ rfl rfl (by omega) (by omega) (fun z103 h103 => ?_)
      refine xputI 107 hH96 ⟨u231, _, rfl⟩ rfl rfl ⟨rfl, rfl⟩ (by omega) (by omega) (fun hp104 hH104 U104 => ?_)
      have s104 := U104.1
      have J96 := rV_J U96
      rw [show wt.toInt.toNat = k by omega, hz] at J96
      have N96 : ∀ j, ¬ j = k → rJ hp96 79 j = rJ hp1 79 j := fun j hj => rJ_eq (U96.2 79 j (by omega))
      refine xretV ⟨u231, _, rfl⟩ rfl (hR _ hH104 ((bFr_sub g2 (by decide)).trans ((rV_fr U96 rfl).trans (rU_fr U104 rfl))) ?_)
      rw [ins_new L m k hk hl hg]
      have N104 : ∀ j, rJ hp104 79 j = rJ hp96 79 j := fun j => rJ_eq (U104.2 79 j (by omega))
      refine ⟨by rw [ins_len hk, U104.1]; omega, fun i hi => ?_⟩
      rw [ins_len hk] at hi
      rw [N104, ins_get L m k i hk]
      by_cases q1 : i < k
      · rw [if_pos q1, N96 i (by omega)]; exact g3 i q1
      · rw [if_neg q1]
        by_cases q2 : i = k
        · rw [if_pos q2, q2]; exact J96
        · rw [if_neg q2, N96 i q2]; exact g4 i (by omega) (by omega)
    · omega
  refine xin (M := am_m231) rfl rfl rfl ?_
  refine xald 1 ⟨u231, _, rfl⟩ rfl rfl ?_
  refine xgetI 4 hH ⟨u231, _, rfl⟩ rfl rfl (fun z1 h1 => ?_)
  refine xist 5 ⟨u231, _, rfl⟩ rfl rfl ?_
  refine xpad 1 ?_
  refine l231a hH hC l314 hz (fun k wt hwt hk hl hg => ?_) L.length _ (by omega) (Nat.le_refl _) (fun i i1 i2 => by omega)
  refine xild 29 ⟨u231, _, rfl⟩ rfl rfl ?_
  refine xif_le 32 ⟨u231, _, rfl⟩ rfl (fun c29 => ?_) (fun c29 => ?_)
  · exact fin k _ _ hwt hk (fun i hi => by omega) (fun w => hl k (Nat.le_refl k) w)
  · refine xald 33 ⟨u231, _, rfl⟩ rfl rfl ?_
    refine xgetR 36 79 hH ⟨u231, _, rfl⟩ rfl rfl ?_
    refine xild 37 ⟨u231, _, rfl⟩ rfl rfl ?_
    refine xcst 38 (1) ⟨u231, _, rfl⟩ rfl (by decide) (fun z37 h37 => ?_)
    refine xsub 39 _ ⟨u231, _, rfl⟩ rfl rfl (by omega) (by omega) (fun z38 h38 => ?_)
    refine xlald 40 (z38).toInt.toNat hH ⟨u231, _, rfl⟩ rfl (by decide) rfl (by omega) (by omega) (fun z39 h39 => ?_)
    have e1 := hC.2 (k - 1) (by omega)
    have ek : z37.toInt.toNat = k - 1 := by omega
    rw [ek] at h39
    refine xlld 41 ⟨u231, _, rfl⟩ rfl rfl ?_
    refine xlcmp 42 ⟨u231, _, rfl⟩ rfl (fun z41 h41 => ?_)
    refine xif_eq 45 ⟨u231, _, rfl⟩ rfl (fun c42 => ?_) (fun c42 => ?_)
    · have hk1 : 0 < k := by omega
      have q9 := hg hk1
      exact xretV ⟨u231, _, rfl⟩ rfl (hR _ hH (bFr.refl _ _) (by
        rw [ins_in L m (k - 1) (by omega) (fun i hi => by have := hs i (k - 1) hi (by omega); omega) (by omega)]
        exact hC))
    · exact fin k _ _ hwt hk (fun i hi => by omega) (fun w => hl k (Nat.le_refl k) w)
theorem u229 : bUp 0 am_m229.1 = true := by decide +kernel
theorem l229E {d V a b x : Nat} {T : sT} {hp : amH} {R : xQ} {wa wb : Int32} (hH : bHk 84 bTT hp) (hB : rdOk hp V T) (hL : rlN hp T 225) (ha : wa.toInt = (a : Int)) (hb : wb.toInt = (b : Int)) (aV : a < V) (bV : b < V) (hx : x < V) (ho : offP T a b x) (hp0c : 0 < cyL T a b x)
    (hm : rN hp 66 17 = ((cyL T a b x : Nat) : Int)) (hr : ∀ k, k < cyL T a b x → rN hp 78 k = ((rk T a b x k : Nat) : Int))
    (hR : ∀ z : Int64, z.toInt = ((tdM T a b x : Nat) : Int) → R (.inl (some (.long z))) hp) :
    ∀ (jj k : Nat) (z : Int64) (w : Int32) (v6 : Option Value), w.toInt = (k : Int) → k + jj = cyL T a b x → z.toInt = ((tdO (fun k => li T (abS a b (pr2 false k)) (rk T a b x k)) k : Nat) : Int) → xV (d + 1) am_m229 5 [some (.ref 66), some (.int wa), some (.int wb), some (.long z), none, some (.int w), v6] [] hp R := by
  have hT := hB.2.1
  have hV := hT.2.1
  have l15 := (cyL_s hT hp0c).1
  intro jj
  induction jj with
  | zero =>
    intro k z w v6 hw hj hz
    have ek : k = cyL T a b x := by omega
    rw [ek] at hz
    refine xild2 7 ⟨u229, _, rfl⟩ rfl rfl ?_
    refine xald 8 ⟨u229, _, rfl⟩ rfl rfl ?_
    refine xgetI 11 hH ⟨u229, _, rfl⟩ rfl rfl (fun z8 h8 => ?_)
    refine xcmp_ge 14 ⟨u229, _, rfl⟩ rfl (fun c11 => ?_) (fun c11 => ?_)
    · refine xlld 75 ⟨u229, _, rfl⟩ rfl rfl ?_
      exact xretJ ⟨u229, _, rfl⟩ rfl (hR _ hz)
    · omega
  | succ jj ih =>
    intro k z w v6 hw hj hz
    obtain ⟨m, em⟩ : ∃ m, (k + 1) % cyL T a b x = m := ⟨_, rfl⟩
    have ml : m < cyL T a b x := by rw [← em]; exact Nat.mod_lt _ hp0c
    have rm : rN hp 78 m = ((rk T a b x (k + 1) : Nat) : Int) := by rw [hr m ml, ← em, rk_mod hT hp0c (by omega)]
    have rkk : rN hp 78 k = ((rk T a b x k : Nat) : Int) := hr k (by omega)
    obtain ⟨f1, f2, f3⟩ := cy_f hT hx ho hp0c k
    obtain ⟨g1, g2, g3⟩ := cy_f hT hx ho hp0c (k + 1)
    obtain ⟨q1, q2⟩ := cy_li hT hx ho hp0c k
    have q3 := nm_mk hT q1
    have q4 : mk3 T ((trL T 225).getD (li T (abS a b (pr2 false k)) (rk T a b x k)) 0) = mA T a b x k := q2
    rw [q4] at q3
    have sA := sAx (a := a) (b := b) k
    have l35 := trL_35 hT 225
    refine xild2 7 ⟨u229, _, rfl⟩ rfl rfl ?_
    refine xald 8 ⟨u229, _, rfl⟩ rfl rfl ?_
    refine xgetI 11 hH ⟨u229, _, rfl⟩ rfl rfl (fun z8 h8 => ?_)
    refine xcmp_ge 14 ⟨u229, _, rfl⟩ rfl (fun c11 => ?_) (fun c11 => ?_)
    · omega
    · refine xcst 15 (1) ⟨u229, _, rfl⟩ rfl (by decide) (fun z14 h14 => ?_)
      refine xild2 17 ⟨u229, _, rfl⟩ rfl rfl ?_
      refine xcst 18 (2) ⟨u229, _, rfl⟩ rfl (by decide) (fun z17 h17 => ?_)
      refine xrem 19 (Int32.toInt w % 2) ⟨u229, _, rfl⟩ rfl (by omega) (by omega) (by rw [h17]) (fun z18 h18 => ?_)
      refine xif_ne 22 ⟨u229, _, rfl⟩ rfl (fun c19 => ?_) (fun c19 => ?_)
      · refine xild 27 ⟨u229, _, rfl⟩ rfl rfl ?_
        refine xshl 28 ⟨u229, _, rfl⟩ rfl ?_
        refine xcst 29 (1) ⟨u229, _, rfl⟩ rfl (by decide) (fun z28 h28 => ?_)
        refine xald 30 ⟨u229, _, rfl⟩ rfl rfl ?_
        refine xgetR 33 78 hH ⟨u229, _, rfl⟩ rfl rfl ?_
        refine xild2 35 ⟨u229, _, rfl⟩ rfl rfl ?_
        refine xiald 36 (w).toInt.toNat hH ⟨u229, _, rfl⟩ rfl (by decide) rfl (by omega) (by omega) (fun z35 h35 => ?_)
        refine xshl 37 ⟨u229, _, rfl⟩ rfl ?_
        refine xor_ 38 ⟨u229, _, rfl⟩ rfl ?_
        refine xcst 39 (1) ⟨u229, _, rfl⟩ rfl (by decide) (fun z38 h38 => ?_)
        refine xald 40 ⟨u229, _, rfl⟩ rfl rfl ?_
        refine xgetR 43 78 hH ⟨u229, _, rfl⟩ rfl rfl ?_
        refine xild2 45 ⟨u229, _, rfl⟩ rfl rfl ?_
        refine xcst 46 (1) ⟨u229, _, rfl⟩ rfl (by decide) (fun z45 h45 => ?_)
        refine xadd 47 _ ⟨u229, _, rfl⟩ rfl rfl (by omega) (by omega) (fun z46 h46 => ?_)
        refine xald 48 ⟨u229, _, rfl⟩ rfl rfl ?_
        refine xgetI 51 hH ⟨u229, _, rfl⟩ rfl rfl (fun z48 h48 => ?_)
        refine xrem 52 (_) ⟨u229, _, rfl⟩ rfl (by omega) (by omega) (rfl) (fun z51 h51 => ?_)
        have i51 : z51.toInt = ((m : Nat) : Int) := by rw [h51, show z46.toInt = ((k + 1 : Nat) : Int) by omega, show z48.toInt = ((cyL T a b x : Nat) : Int) by omega, ← em]; rfl
        refine xiald 53 (z51).toInt.toNat hH ⟨u229, _, rfl⟩ rfl (by decide) rfl (by omega) (by omega) (fun z52 h52 => ?_)
        refine xshl 54 ⟨u229, _, rfl⟩ rfl ?_
        refine xor_ 55 ⟨u229, _, rfl⟩ rfl ?_
        have sA : abS a b (pr2 false k) = b := by rw [sA, if_pos (by omega)]
        have ek : w.toInt.toNat = k := by omega
        have em2 : z51.toInt.toNat = m := by omega
        rw [ek] at h35
        rw [em2] at h52
        have w1 := i_shl (o := z14) (c := wb) (n := b) h14 (by omega) (by omega)
        have w2 := i_shl (o := z28) (c := z35) (n := rk T a b x k) h28 (by omega) (by omega)
        have w3 := i_shl (o := z38) (c := z52) (n := rk T a b x (k + 1)) h38 (by omega) (by omega)
        have w4 := i_or w1.1 w2.1 w1.2 w2.2
        have w5 := i_or w4.1 w3.1 w4.2 w3.2
        have eM : mA T a b x k = 2 ^ b ||| 2 ^ rk T a b x k ||| 2 ^ rk T a b x (k + 1) := by unfold mA; rw [sA]; rfl
        refine xist2 57 ⟨u229, _, rfl⟩ rfl rfl ?_
        refine xlld 58 ⟨u229, _, rfl⟩ rfl rfl ?_
        refine xlcst 59 (1) ⟨u229, _, rfl⟩ rfl (by decide) (fun z58 h58 => ?_)
        refine xald 60 ⟨u229, _, rfl⟩ rfl rfl ?_
        refine xild2 62 ⟨u229, _, rfl⟩ rfl rfl ?_
        refine xcall 65 [.ref 66, .int _] [.long _, .long _] hH ⟨u229, _, rfl⟩ rfl rfl rfl rfl rfl (k_rnof hH hB hL (m := mA T a b x k) (by rw [eM]; exact w5.1) (fun z62 h62 => ⟨_, rfl, ?_⟩))
        rw [q3] at h62
        have v1 := j_shl (o := z58) (c := z62) (k := li T (abS a b (pr2 false k)) (rk T a b x k)) h58 h62 (by omega)
        have v2 := j_or hz v1
        refine xlshl 66 ⟨u229, _, rfl⟩ rfl ?_
        refine xlor 67 ⟨u229, _, rfl⟩ rfl ?_
        refine xlst 68 ⟨u229, _, rfl⟩ rfl rfl ?_
        refine xinc 71 (1) ⟨u229, _, rfl⟩ rfl rfl rfl (by decide) (by omega) (by omega) (fun z68 h68 => ?_)
        refine xgoto ⟨u229, _, rfl⟩ ?_
        exact ih (k + 1) _ _ _ (by omega) (by omega) v2
      · refine xild 23 ⟨u229, _, rfl⟩ rfl rfl ?_
        refine xgoto ⟨u229, _, rfl⟩ ?_
        refine xshl 28 ⟨u229, _, rfl⟩ rfl ?_
        refine xcst 29 (1) ⟨u229, _, rfl⟩ rfl (by decide) (fun z28 h28 => ?_)
        refine xald 30 ⟨u229, _, rfl⟩ rfl rfl ?_
        refine xgetR 33 78 hH ⟨u229, _, rfl⟩ rfl rfl ?_
        refine xild2 35 ⟨u229, _, rfl⟩ rfl rfl ?_
        refine xiald 36 (w).toInt.toNat hH ⟨u229, _, rfl⟩ rfl (by decide) rfl (by omega) (by omega) (fun z35 h35 => ?_)
        refine xshl 37 ⟨u229, _, rfl⟩ rfl ?_
        refine xor_ 38 ⟨u229, _, rfl⟩ rfl ?_
        refine xcst 39 (1) ⟨u229, _, rfl⟩ rfl (by decide) (fun z38 h38 => ?_)
        refine xald 40 ⟨u229, _, rfl⟩ rfl rfl ?_
        refine xgetR 43 78 hH ⟨u229, _, rfl⟩ rfl rfl ?_
        refine xild2 45 ⟨u229, _, rfl⟩ rfl rfl ?_
        refine xcst 46 (1) ⟨u229, _, rfl⟩ rfl (by decide) (fun z45 h45 => ?_)
        refine xadd 47 _ ⟨u229, _, rfl⟩ rfl rfl (by omega) (by omega) (fun z46 h46 => ?_)
        refine xald 48 ⟨u229, _, rfl⟩ rfl rfl ?_
        refine xgetI 51 hH ⟨u229, _, rfl⟩ rfl rfl (fun z48 h48 => ?_)
        refine xrem 52 (_) ⟨u229, _, rfl⟩ rfl (by omega) (by omega) (rfl) (fun z51 h51 => ?_)
        have i51 : z51.toInt = ((m : Nat) : Int) := by rw [h51, show z46.toInt = ((k + 1 : Nat) : Int) by omega, show z48.toInt = ((cyL T a b x : Nat) : Int) by omega, ← em]; rfl
        refine xiald 53 (z51).toInt.toNat hH ⟨u229, _, rfl⟩ rfl (by decide) rfl (by omega) (by omega) (fun z52 h52 => ?_)
        refine xshl 54 ⟨u229, _, rfl⟩ rfl ?_
        refine xor_ 55 ⟨u229, _, rfl⟩ rfl ?_
        have sA : abS a b (pr2 false k) = a := by rw [sA, if_neg (by omega)]
        have ek : w.toInt.toNat = k := by omega
        have em2 : z51.toInt.toNat = m := by omega
        rw [ek] at h35
        rw [em2] at h52
        have w1 := i_shl (o := z14) (c := wa) (n := a) h14 (by omega) (by omega)
        have w2 := i_shl (o := z28) (c := z35) (n := rk T a b x k) h28 (by omega) (by omega)
        have w3 := i_shl (o := z38) (c := z52) (n := rk T a b x (k + 1)) h38 (by omega) (by omega)
        have w4 := i_or w1.1 w2.1 w1.2 w2.2
        have w5 := i_or w4.1 w3.1 w4.2 w3.2
        have eM : mA T a b x k = 2 ^ a ||| 2 ^ rk T a b x k ||| 2 ^ rk T a b x (k + 1) := by unfold mA; rw [sA]; rfl
        refine xist2 57 ⟨u229, _, rfl⟩ rfl rfl ?_
        refine xlld 58 ⟨u229, _, rfl⟩ rfl rfl ?_
        refine xlcst 59 (1) ⟨u229, _, rfl⟩ rfl (by decide) (fun z58 h58 => ?_)
        refine xald 60 ⟨u229, _, rfl⟩ rfl rfl ?_
        refine xild2 62 ⟨u229, _, rfl⟩ rfl rfl ?_
        refine xcall 65 [.ref 66, .int _] [.long _, .long _] hH ⟨u229, _, rfl⟩ rfl rfl rfl rfl rfl (k_rnof hH hB hL (m := mA T a b x k) (by rw [eM]; exact w5.1) (fun z62 h62 => ⟨_, rfl, ?_⟩))
        rw [q3] at h62
        have v1 := j_shl (o := z58) (c := z62) (k := li T (abS a b (pr2 false k)) (rk T a b x k)) h58 h62 (by omega)
        have v2 := j_or hz v1
        refine xlshl 66 ⟨u229, _, rfl⟩ rfl ?_
        refine xlor 67 ⟨u229, _, rfl⟩ rfl ?_
        refine xlst 68 ⟨u229, _, rfl⟩ rfl rfl ?_
        refine xinc 71 (1) ⟨u229, _, rfl⟩ rfl rfl rfl (by decide) (by omega) (by omega) (fun z68 h68 => ?_)
        refine xgoto ⟨u229, _, rfl⟩ ?_
        exact ih (k + 1) _ _ _ (by omega) (by omega) v2
theorem k_229E {d V a b x : Nat} {T : sT} {hp : amH} {R : xQ} {wa wb : Int32} (hH : bHk 84 bTT hp) (hB : rdOk hp V T) (hL : rlN hp T 225) (ha : wa.toInt = (a : Int)) (hb : wb.toInt = (b : Int)) (aV : a < V) (bV : b < V) (hx : x < V) (ho : offP T a b x) (hp0c : 0 < cyL T a b x)
    (hm : rN hp 66 17 = ((cyL T a b x : Nat) : Int)) (hr : ∀ k, k < cyL T a b x → rN hp 78 k = ((rk T a b x k : Nat) : Int))
    (hR : ∀ z : Int64, z.toInt = ((tdM T a b x : Nat) : Int) → R (.inl (some (.long z))) hp) : xK (d + 1) 229 [.ref 66, .int wa, .int wb] hp R := by
  refine xin (M := am_m229) rfl rfl rfl ?_
  refine xlcst 1 (0) ⟨u229, _, rfl⟩ rfl (by decide) (fun z0 h0 => ?_)
  refine xlst 2 ⟨u229, _, rfl⟩ rfl rfl ?_
  refine xcst 3 (0) ⟨u229, _, rfl⟩ rfl (by decide) (fun z2 h2 => ?_)
  refine xist2 5 ⟨u229, _, rfl⟩ rfl rfl ?_
  refine xpad 1 ?_
  exact l229E hH hB hL ha hb aV bV hx ho hp0c hm hr hR (cyL T a b x) 0 _ _ _ h2 (by omega) h0
theorem u232 : bUp 0 am_m232.1 = true := by decide +kernel
theorem l232x {d a b V : Nat} {T : sT} {S : List Nat} {hp0 : amH} {R : xQ} {wa wb l : Int32} (hB0 : rdOk hp0 V T) (hL0 : rlN hp0 T 225) (ha : wa.toInt = (a : Int)) (hb : wb.toInt = (b : Int)) (hab : a < b ∧ b < V) (hS : srt S) (l312 : S.length ≤ 312)
    (hQ : ∀ (wx : Int32) (hp : amH), bHk 84 bTT hp → bFr [(66, 17), (66, 19), (78, 999), (79, 999)] hp0 hp → tdR hp (tdG T l.toInt a b S (cyS T a b V)) → xV (d + 3) am_m232 78 [some (.ref 66), some (.int l), some (.int wa), some (.int wb), some (.int wx)] [] hp R) :
    ∀ (jj x : Nat) (wx : Int32) (hp : amH), bHk 84 bTT hp → bFr [(66, 17), (66, 19), (78, 999), (79, 999)] hp0 hp → wx.toInt = (x : Int) → x + jj = V → tdR hp (tdG T l.toInt a b S (cyS T a b x)) → xV (d + 3) am_m232 34 [some (.ref 66), some (.int l), some (.int wa), some (.int wb), some (.int wx)] [] hp R := by
  have c3' := cyS_3 hB0.2.1 hab
  intro jj
  induction jj with
  | zero =>
    intro x wx hp hH hF hx hj hC
    have hB : rdOk hp V T := rdOk_fr hB0 (fun i => r_fr hF rfl)
    have hL : rlN hp T 225 := rlN_fr hL0 (r_fr hF rfl) (fun i => r_fr hF rfl) (fun i => r_fr hF rfl) (fun i => r_fr hF rfl) (fun i => r_fr hF rfl)
    have h15 : V ≤ 15 := hB.2.1.2.1
    have b0 : rN hp 67 0 = (V : Int) := hB.1
    have ex : x = V := by omega
    rw [ex] at hC
    refine xild2 36 ⟨u232, _, rfl⟩ rfl rfl ?_
    refine xald 37 ⟨u232, _, rfl⟩ rfl rfl ?_
    refine xcall 40 [.ref 66] [.int _] hH ⟨u232, _, rfl⟩ rfl rfl rfl rfl rfl (k_points hH (fun z37 h37 => ⟨_, rfl, ?_⟩))
    refine xcmp_ge 43 ⟨u232, _, rfl⟩ rfl (fun c40 => ?_) (fun c40 => ?_)
    · exact hQ _ _ hH hF hC
    · omega
  | succ jj ih =>
    intro x wx hp hH hF hx hj hC
    have hB : rdOk hp V T := rdOk_fr hB0 (fun i => r_fr hF rfl)
    have hL : rlN hp T 225 := rlN_fr hL0 (r_fr hF rfl) (fun i => r_fr hF rfl) (fun i => r_fr hF rfl) (fun i => r_fr hF rfl) (fun i => r_fr hF rfl)
    have h15 : V ≤ 15 := hB.2.1.2.1
    have b0 : rN hp 67 0 = (V : Int) := hB.1
    have sx := tdG_s (T := T) (L := l.toInt) (a := a) (b := b) (cyS T a b x) S hS
    have cx : (cyS T a b x).length ≤ 3 := by
      have := cy_15 (T := T) (n := x) hB.2.1 (show a < V by omega) hab.2 (by omega) (by omega)
      omega
    refine xild2 36 ⟨u232, _, rfl⟩ rfl rfl ?_
    refine xald 37 ⟨u232, _, rfl⟩ rfl rfl ?_
    refine xcall 40 [.ref 66] [.int _] hH ⟨u232, _, rfl⟩ rfl rfl rfl rfl rfl (k_points hH (fun z37 h37 => ⟨_, rfl, ?_⟩))
    refine xcmp_ge 43 ⟨u232, _, rfl⟩ rfl (fun c40 => ?_) (fun c40 => ?_)
    · omega
    · refine xald 44 ⟨u232, _, rfl⟩ rfl rfl ?_
      refine xild 45 ⟨u232, _, rfl⟩ rfl rfl ?_
      refine xild 46 ⟨u232, _, rfl⟩ rfl rfl ?_
      refine xild2 48 ⟨u232, _, rfl⟩ rfl rfl ?_
      refine xcall 51 [.ref 66, .int _, .int _, .int _] [] hH ⟨u232, _, rfl⟩ rfl rfl rfl rfl rfl (k_226E hH hB ha hb (by omega) (by omega) hx (by omega) (fun z48 hp48 hH48 F48 h48 m48 => ⟨_, rfl, ?_⟩))
      have b48 : (z48.toInt = 1 ∧ cyB T a b x = true) ∨ (z48.toInt = 0 ∧ ¬ cyB T a b x = true) := by
        by_cases q : cyB T a b x = true
        · left; rw [h48, if_pos q]; exact ⟨rfl, q⟩
        · right; rw [h48, if_neg q]; exact ⟨rfl, q⟩
      have C48 : tdR hp48 (tdG T l.toInt a b S (cyS T a b x)) := ⟨(r_fr F48 rfl).trans hC.1, fun i hi => (rJ_eq (F48 79 i rfl)).trans (hC.2 i hi)⟩
      have G48 : bFr [(66, 17), (66, 19), (78, 999), (79, 999)] hp0 hp48 := hF.trans (bFr_sub F48 (by decide))
      refine xif_eq 54 ⟨u232, _, rfl⟩ rfl (fun c51 => ?_) (fun c51 => ?_)
      · refine xinc 75 (1) ⟨u232, _, rfl⟩ rfl rfl rfl (by decide) (by omega) (by omega) (fun z72 h72 => ?_)
        refine xgoto ⟨u232, _, rfl⟩ ?_
        have q1 : ¬ cyB T a b x = true := by
          rcases b48 with ⟨q, -⟩ | ⟨-, q⟩
          · omega
          · exact q
        have eS : cyS T a b (x + 1) = cyS T a b x := fL_skip q1
        exact ih (x + 1) _ hp48 hH48 G48 (by omega) (by omega) (by rw [eS]; exact C48)
      · have q1 : cyB T a b x = true := by
          rcases b48 with ⟨-, q⟩ | ⟨q, -⟩
          · exact q
          · omega
        have q2 := (m48 q1).1
        have u1 := (cyB_s hB.2.1).mp q1
        have eS : cyS T a b (x + 1) = cyS T a b x ++ [x] := fL_add q1
        have B48 : rdOk hp48 V T := rdOk_fr hB (fun i => r_fr F48 rfl)
        have L48 : rlN hp48 T 225 := rlN_fr hL (r_fr F48 rfl) (fun i => r_fr F48 rfl) (fun i => r_fr F48 rfl) (fun i => r_fr F48 rfl) (fun i => r_fr F48 rfl)
        refine xald 55 ⟨u232, _, rfl⟩ rfl rfl ?_
        refine xgetI 58 hH48 ⟨u232, _, rfl⟩ rfl rfl (fun z55 h55 => ?_)
        refine xild 59 ⟨u232, _, rfl⟩ rfl rfl ?_
        refine xcmp_ne 62 ⟨u232, _, rfl⟩ rfl (fun c59 => ?_) (fun c59 => ?_)
        · refine xinc 75 (1) ⟨u232, _, rfl⟩ rfl rfl rfl (by decide) (by omega) (by omega) (fun z72 h72 => ?_)
          refine xgoto ⟨u232, _, rfl⟩ ?_
          exact ih (x + 1) _ hp48 hH48 G48 (by omega) (by omega) (by rw [eS, tdG_0 (by omega)]; exact C48)
        · refine xald 63 ⟨u232, _, rfl⟩ rfl rfl ?_
          refine xald 64 ⟨u232, _, rfl⟩ rfl rfl ?_
          refine xild 65 ⟨u232, _, rfl⟩ rfl rfl ?_
          refine xild 66 ⟨u232, _, rfl⟩ rfl rfl ?_
          refine xcall 69 [.ref 66, .int _, .int _] [.ref 66] hH48 ⟨u232, _, rfl⟩ rfl rfl rfl rfl rfl (k_229E hH48 B48 L48 ha hb (by omega) (by omega) (by omega) ⟨u1.1, u1.2.1, u1.2.2.1⟩ u1.2.2.2.1 (m48 q1).1 (m48 q1).2 (fun z66 h66 => ⟨_, rfl, ?_⟩))
          refine xcall 72 [.ref 66, .long _] [] hH48 ⟨u232, _, rfl⟩ rfl rfl rfl rfl rfl (k_231E (m := tdM T a b x) hH48 C48 (by omega) h66 sx.1 (fun hp69 hH69 F69 C69 => ⟨_, rfl, ?_⟩))
          refine xinc 75 (1) ⟨u232, _, rfl⟩ rfl rfl rfl (by decide) (by omega) (by omega) (fun z72 h72 => ?_)
          refine xgoto ⟨u232, _, rfl⟩ ?_
          exact ih (x + 1) _ hp69 hH69 (G48.trans (bFr_sub F69 (by decide))) (by omega) (by omega) (by rw [eS, tdG_1 (by omega)]; exact C69)
theorem l232i {d a V : Nat} {T : sT} {hp0 : amH} {R : xQ} {wa l : Int32} (hB0 : rdOk hp0 V T) (hL0 : rlN hp0 T 225) (ha : wa.toInt = (a : Int)) (aV : a < V)
    (hQ : ∀ (wb : Int32) (v4 : Option Value) (hp : amH), bHk 84 bTT hp → bFr [(66, 17), (66, 19), (78, 999), (79, 999)] hp0 hp → tdR hp (tdL V T l.toInt (15 * (a + 1))) → xV (d + 3) am_m232 84 [some (.ref 66), some (.int l), some (.int wa), some (.int wb), v4] [] hp R) :
    ∀ (jj b : Nat) (wb : Int32) (v4 : Option Value) (hp : amH), bHk 84 bTT hp → bFr [(66, 17), (66, 19), (78, 999), (79, 999)] hp0 hp → wb.toInt = (b : Int) → a < b → b + jj = V → tdR hp (tdL V T l.toInt (15 * a + b)) → xV (d + 3) am_m232 23 [some (.ref 66), some (.int l), some (.int wa), some (.int wb), v4] [] hp R := by
  intro jj
  induction jj with
  | zero =>
    intro b wb v4 hp hH hF hb hab hj hC
    have hB : rdOk hp V T := rdOk_fr hB0 (fun i => r_fr hF rfl)
    have hL : rlN hp T 225 := rlN_fr hL0 (r_fr hF rfl) (fun i => r_fr hF rfl) (fun i => r_fr hF rfl) (fun i => r_fr hF rfl) (fun i => r_fr hF rfl)
    have h15 : V ≤ 15 := hB.2.1.2.1
    have b0 : rN hp 67 0 = (V : Int) := hB.1
    have e := tdL_row (V := V) (a := a) (b := b) (T := T) (L := l.toInt) h15 (by omega)
    refine xild 24 ⟨u232, _, rfl⟩ rfl rfl ?_
    refine xald 25 ⟨u232, _, rfl⟩ rfl rfl ?_
    refine xcall 28 [.ref 66] [.int _] hH ⟨u232, _, rfl⟩ rfl rfl rfl rfl rfl (k_points hH (fun z25 h25 => ⟨_, rfl, ?_⟩))
    refine xcmp_ge 31 ⟨u232, _, rfl⟩ rfl (fun c28 => ?_) (fun c28 => ?_)
    · exact hQ _ _ _ hH hF (by rw [e]; exact hC)
    · omega
  | succ jj ih =>
    intro b wb v4 hp hH hF hb hab hj hC
    have hB : rdOk hp V T := rdOk_fr hB0 (fun i => r_fr hF rfl)
    have hL : rlN hp T 225 := rlN_fr hL0 (r_fr hF rfl) (fun i => r_fr hF rfl) (fun i => r_fr hF rfl) (fun i => r_fr hF rfl) (fun i => r_fr hF rfl)
    have h15 : V ≤ 15 := hB.2.1.2.1
    have b0 : rN hp 67 0 = (V : Int) := hB.1
    have s1 := tdL_st (V := V) (a := a) (b := b) (T := T) (L := l.toInt) (by omega) ⟨hab, by omega⟩
    have l312 := tdL_312 (T := T) (L := l.toInt) hB.2.1 (show a < b ∧ b < V from ⟨hab, by omega⟩)
    have hs := (tdL_s (L := l.toInt) hB.2.1 (15 * a + b)).1
    refine xild 24 ⟨u232, _, rfl⟩ rfl rfl ?_
    refine xald 25 ⟨u232, _, rfl⟩ rfl rfl ?_
    refine xcall 28 [.ref 66] [.int _] hH ⟨u232, _, rfl⟩ rfl rfl rfl rfl rfl (k_points hH (fun z25 h25 => ⟨_, rfl, ?_⟩))
    refine xcmp_ge 31 ⟨u232, _, rfl⟩ rfl (fun c28 => ?_) (fun c28 => ?_)
    · omega
    · refine xcst 32 (0) ⟨u232, _, rfl⟩ rfl (by decide) (fun z31 h31 => ?_)
      refine xist2 34 ⟨u232, _, rfl⟩ rfl rfl ?_
      refine l232x hB hL ha hb ⟨hab, by omega⟩ hs l312 (fun wx hp1 g1 g2 r1 => ?_) V 0 _ hp hH (bFr.refl _ _) h31 (by omega) hC
      refine xinc 81 (1) ⟨u232, _, rfl⟩ rfl rfl rfl (by decide) (by omega) (by omega) (fun z78 h78 => ?_)
      refine xgoto ⟨u232, _, rfl⟩ ?_
      exact ih (b + 1) _ _ hp1 g1 (hF.trans g2) (by omega) (by omega) (by omega) (by rw [s1]; exact r1)
theorem l232o {d V : Nat} {T : sT} {hp0 : amH} {R : xQ} {l : Int32} (hB0 : rdOk hp0 V T) (hL0 : rlN hp0 T 225)
    (hR : ∀ hp : amH, bHk 84 bTT hp → bFr [(66, 17), (66, 19), (78, 999), (79, 999)] hp0 hp → tdR hp (tdL V T l.toInt 225) → R (.inl none) hp) :
    ∀ (jj a : Nat) (wa : Int32) (v3 v4 : Option Value) (hp : amH), bHk 84 bTT hp → bFr [(66, 17), (66, 19), (78, 999), (79, 999)] hp0 hp → wa.toInt = (a : Int) → a + jj = V → tdR hp (tdL V T l.toInt (15 * a)) → xV (d + 3) am_m232 11 [some (.ref 66), some (.int l), some (.int wa), v3, v4] [] hp R := by
  intro jj
  induction jj with
  | zero =>
    intro a wa v3 v4 hp hH hF ha hj hC
    have hB : rdOk hp V T := rdOk_fr hB0 (fun i => r_fr hF rfl)
    have hL : rlN hp T 225 := rlN_fr hL0 (r_fr hF rfl) (fun i => r_fr hF rfl) (fun i => r_fr hF rfl) (fun i => r_fr hF rfl) (fun i => r_fr hF rfl)
    have h15 : V ≤ 15 := hB.2.1.2.1
    have b0 : rN hp 67 0 = (V : Int) := hB.1
    have e := tdL_end (V := V) (a := a) (T := T) (L := l.toInt) h15 (by omega)
    refine xild 12 ⟨u232, _, rfl⟩ rfl rfl ?_
    refine xald 13 ⟨u232, _, rfl⟩ rfl rfl ?_
    refine xcall 16 [.ref 66] [.int _] hH ⟨u232, _, rfl⟩ rfl rfl rfl rfl rfl (k_points hH (fun z13 h13 => ⟨_, rfl, ?_⟩))
    refine xcmp_ge 19 ⟨u232, _, rfl⟩ rfl (fun c16 => ?_) (fun c16 => ?_)
    · exact xretV ⟨u232, _, rfl⟩ rfl (hR _ hH hF (by rw [e]; exact hC))
    · omega
  | succ jj ih =>
    intro a wa v3 v4 hp hH hF ha hj hC
    have hB : rdOk hp V T := rdOk_fr hB0 (fun i => r_fr hF rfl)
    have hL : rlN hp T 225 := rlN_fr hL0 (r_fr hF rfl) (fun i => r_fr hF rfl) (fun i => r_fr hF rfl) (fun i => r_fr hF rfl) (fun i => r_fr hF rfl)
    have h15 : V ≤ 15 := hB.2.1.2.1
    have b0 : rN hp 67 0 = (V : Int) := hB.1
    have eb := tdL_beg (V := V) (a := a) (T := T) (L := l.toInt)
    refine xild 12 ⟨u232, _, rfl⟩ rfl rfl ?_
    refine xald 13 ⟨u232, _, rfl⟩ rfl rfl ?_
    refine xcall 16 [.ref 66] [.int _] hH ⟨u232, _, rfl⟩ rfl rfl rfl rfl rfl (k_points hH (fun z13 h13 => ⟨_, rfl, ?_⟩))
    refine xcmp_ge 19 ⟨u232, _, rfl⟩ rfl (fun c16 => ?_) (fun c16 => ?_)
    · omega
    · refine xild 20 ⟨u232, _, rfl⟩ rfl rfl ?_
      refine xcst 21 (1) ⟨u232, _, rfl⟩ rfl (by decide) (fun z20 h20 => ?_)
      refine xadd 22 _ ⟨u232, _, rfl⟩ rfl rfl (by omega) (by omega) (fun z21 h21 => ?_)
      refine xist 23 ⟨u232, _, rfl⟩ rfl rfl ?_
      refine l232i hB0 hL0 ha (by omega) (fun xb v4 hp9 g0 g1 r1 => ?_) (V - (a + 1)) (a + 1) _ _ _ hH hF (by omega) (by omega) (by omega) (by rw [eb]; exact hC)
      refine xinc 87 (1) ⟨u232, _, rfl⟩ rfl rfl rfl (by decide) (by omega) (by omega) (fun z84 h84 => ?_)
      refine xgoto ⟨u232, _, rfl⟩ ?_
      exact ih (a + 1) _ _ _ _ g0 g1 (by omega) (by omega) r1
abbrev wTd : List (Nat × Nat) := [(66, 17), (66, 19), (78, 999), (79, 999)] ++ bLT
/-- the reference lays the trades of a volume -/
theorem k_232E {d V : Nat} {T : sT} {hp : amH} {R : xQ} {l : Int32} (hH : bHk 84 bTT hp) (hB : rdOk hp V T)
    (hR : ∀ hp1 : amH, bHk 84 bTT hp1 → bFr wTd hp hp1 → rdOk hp1 V T → rlN hp1 T 225 → tdR hp1 (tdL V T l.toInt 225) → R (.inl none) hp1) : xK (d + 3) 232 [.ref 66, .int l] hp R := by
  refine xin (M := am_m232) rfl rfl rfl ?_
  refine xald 1 ⟨u232, _, rfl⟩ rfl rfl ?_
  refine xcall 4 [.ref 66] [] hH ⟨u232, _, rfl⟩ rfl rfl rfl rfl rfl (k_rlst hH hB (fun hp1 hH1 F1 B1 L1 => ⟨_, rfl, ?_⟩))
  refine xald 5 ⟨u232, _, rfl⟩ rfl rfl ?_
  refine xcst 6 (0) ⟨u232, _, rfl⟩ rfl (by decide) (fun z5 h5 => ?_)
  refine xputI 9 hH1 ⟨u232, _, rfl⟩ rfl rfl ⟨rfl, rfl⟩ (by omega) (by omega) (fun hp6 hH6 U6 => ?_)
  have s6 := U6.1
  refine xcst 10 (0) ⟨u232, _, rfl⟩ rfl (by decide) (fun z9 h9 => ?_)
  refine xist 11 ⟨u232, _, rfl⟩ rfl rfl ?_
  refine xpad 2 ?_
  have F6 : bFr [(66, 19)] hp1 hp6 := rU_fr U6 rfl
  have B6 : rdOk hp6 V T := rdOk_fr B1 (fun i => r_fr F6 rfl)
  have L6 : rlN hp6 T 225 := rlN_fr L1 (r_fr F6 rfl) (fun i => r_fr F6 rfl) (fun i => r_fr F6 rfl) (fun i => r_fr F6 rfl) (fun i => r_fr F6 rfl)
  exact l232o B6 L6 (fun hp2 g1 g2 g3 => hR hp2 g1 (((bFr_sub F1 (by decide)).trans (bFr_sub F6 (by decide))).trans (bFr_sub g2 (by decide))) (rdOk_fr B6 (fun i => r_fr g2 rfl)) (rlN_fr L6 (r_fr g2 rfl) (fun i => r_fr g2 rfl) (fun i => r_fr g2 rfl) (fun i => r_fr g2 rfl) (fun i => r_fr g2 rfl)) g3) V 0 _ _ _ hp6 hH6 (bFr.refl _ _) h9 (by omega) ⟨by rw [U6.1]; exact h5, fun i hi => (Nat.not_lt_zero i hi).elim⟩
theorem u303 : bUp 0 am_m303.1 = true := by decide +kernel
theorem k_303E {d V n : Nat} {h : Nat → sR} {sv : Option sR} {T : sT} {ty : Nat → Int} {hp : amH} {R : xQ} {a : Int32} (hH : bHk 84 bTT hp) (hP : P0 hp) (hS : rfS hp (V, T, ty) n h sv)
    (hR : ∀ (z : Int32) hp1, bHk 84 bTT hp1 → P0 hp1 → bFr wM hp hp1 → rfS hp1 (V, T, ty) n h sv → z.toInt = (((tdL V T a.toInt 225).length : Nat) : Int) → R (.inl (some (.int z))) hp1) : xK (d + 6) 303 [.ref 66, .int a] hp R := by
  have hB : rdOk hp V T := rowOk_rd hS.1
  have b0 : rN hp 67 0 = (V : Int) := hB.1
  have hT0 : sOk V T := hB.2.1
  have h15 : V ≤ 15 := hT0.2.1
  have l35 : (trL T 225).length ≤ 35 := trL_35 hT0 225
  refine xin (M := am_m303) rfl rfl rfl ?_
  refine xald 1 ⟨u303, _, rfl⟩ rfl rfl ?_
  refine xcst 2 (0) ⟨u303, _, rfl⟩ rfl (by decide) (fun z1 h1 => ?_)
  refine xputI 5 hH ⟨u303, _, rfl⟩ rfl rfl ⟨rfl, rfl⟩ (by omega) (by omega) (fun hp2 hH2 U2 => ?_)
  have s2 := U2.1
  have S2 := rfS_W (W := [(66, 7)]) hS (rU_fr U2 rfl) (fun _ => rfl) rfl rfl (fun _ => rfl) (fun _ => rfl)
  have P2 := P0_W (W := [(66, 7)]) (by decide) (rU_fr U2 rfl) hP
  refine xald 6 ⟨u303, _, rfl⟩ rfl rfl ?_
  refine xild 7 ⟨u303, _, rfl⟩ rfl rfl ?_
  refine xcall 10 [.ref 66, .int _] [] hH2 ⟨u303, _, rfl⟩ rfl rfl rfl rfl rfl (k_232E hH2 (show rdOk hp2 V T from rowOk_rd S2.1) (fun hp7 hH7 F7 B7 L7 C7 => ⟨_, rfl, ?_⟩))
  have S7 := rfS_W S2 F7 (fun _ => rfl) rfl rfl (fun _ => rfl) (fun _ => rfl)
  have P7 := P0_W (W := wTd) (by decide) F7 P2
  refine xald 11 ⟨u303, _, rfl⟩ rfl rfl ?_
  refine xgetI 14 hH7 ⟨u303, _, rfl⟩ rfl rfl (fun z11 h11 => ?_)
  exact xret ⟨u303, _, rfl⟩ rfl (hR _ hp7 hH7 P7 ((rU_fr U2 (by decide)).trans (bFr_sub F7 (by decide))) S7 (by rw [h11]; exact C7.1))
end
/-! ##### q36 ##### -/
section
/-! ===== trade on both sides ===== -/
def gTd (V : Nat) (T : sT) (l i : Int) : Int := if 0 ≤ i ∧ i < (((tdL V T l 225).length : Nat) : Int) then 0 else 1
theorem gTd_0 {V : Nat} {T : sT} {l i : Int} : gTd V T l i = 0 ↔ (0 ≤ i ∧ i < (((tdL V T l 225).length : Nat) : Int)) := by
  unfold gTd
  split
  · next h => exact ⟨fun _ => h, fun _ => rfl⟩
  · next h => exact ⟨fun z => absurd z (by decide), fun z => absurd z h⟩
theorem gTd_1 {V : Nat} {T : sT} {l i : Int} (h : ¬ (0 ≤ i ∧ i < (((tdL V T l 225).length : Nat) : Int))) : gTd V T l i = 1 := if_neg h
abbrev tdV (V : Nat) (T : sT) (l i : Int) : Int := (((tdL V T l 225).getD i.toNat 0 : Nat) : Int)
theorem u147 : bUp 0 am_m147.1 = true := by decide +kernel
theorem k_147E {d V n : Nat} {h : Nat → sR} {sv : Option sR} {T : sT} {ty : Nat → Int} {hp : amH} {R : xQ} {a b : Int32} (hH : bHk 84 bTT hp) (hS : clS hp (V, T, ty) n h sv)
    (hT : ∀ E hp1, bHk 84 bTT hp1 → cF hp hp1 → clS hp1 (V, T, ty) n h sv → ¬ gTd V T a.toInt b.toInt = 0 → ((gTd V T a.toInt b.toInt = 1 ∧ E = 3)) → R (.inr E) hp1)
    (hR : ∀ (z : Int64) hp1, bHk 84 bTT hp1 → cF hp hp1 → gTd V T a.toInt b.toInt = 0 → clS hp1 (V, T, ty) n h sv → z.toInt = tdV V T a.toInt b.toInt → R (.inl (some (.long z))) hp1) : xK (d + 6) 147 [.ref 0, .int a, .int b] hp R := by
  have hB : bdOk hp 3 V T := hS.1
  have hL : lsN hp 3 T 225 := hS.2.1
  refine xin (M := am_m147) rfl rfl rfl ?_
  refine xald 1 ⟨u147, _, rfl⟩ rfl rfl ?_
  refine xgetD 4 (56) hH ⟨u147, _, rfl⟩ rfl (by decide) (by decide) rfl rfl (by decide) ?_
  refine xald 5 ⟨u147, _, rfl⟩ rfl rfl ?_
  refine xgetD 8 (3) hH ⟨u147, _, rfl⟩ rfl (by decide) (by decide) rfl rfl (by decide) ?_
  refine xald 9 ⟨u147, _, rfl⟩ rfl rfl ?_
  refine xgetD 12 (52) hH ⟨u147, _, rfl⟩ rfl (by decide) (by decide) rfl rfl (by decide) ?_
  refine xild 13 ⟨u147, _, rfl⟩ rfl rfl ?_
  refine xcallC 16 (o := 56) [.ref 3, .ref 52, .int _] [] hH ⟨u147, _, rfl⟩ rfl rfl (by decide) rfl (by decide) rfl ⟨rfl, rfl, rfl, rfl⟩ rfl (k_95E hH hB hL (fun hp13 hH13 F13 C13 => ⟨_, rfl, ?_⟩))
  have c13 := C13.1
  have l315 := tdL_105 (n := 225) (L := a.toInt) hB.2.1 (Nat.le_refl _)
  have S13 := clS_8 hS (fun c k hc => F13 c k (by simp; omega))
  have G13 : cF hp hp13 := cF_x F13 (by simp)
  refine xild 17 ⟨u147, _, rfl⟩ rfl rfl ?_
  refine xif_lt 20 ⟨u147, _, rfl⟩ rfl (fun c17 => ?_) (fun c17 => ?_)
  · exact xthr ⟨u147, _, rfl⟩ (by decide) rfl (by decide) (hT _ hp13 hH13 G13 S13 (by rw [gTd_1 (by omega)]; decide) ⟨gTd_1 (by omega), rfl⟩)
  · refine xild 21 ⟨u147, _, rfl⟩ rfl rfl ?_
    refine xald 22 ⟨u147, _, rfl⟩ rfl rfl ?_
    refine xgetD 25 (56) hH13 ⟨u147, _, rfl⟩ rfl (by decide) (by decide) rfl rfl (by decide) ?_
    refine xgetC 28 hH13 ⟨u147, _, rfl⟩ rfl (by decide) (by decide) rfl rfl (by decide) (fun z25 h25 => ?_)
    refine xcmp_lt 31 ⟨u147, _, rfl⟩ rfl (fun c28 => ?_) (fun c28 => ?_)
    · refine xald 43 ⟨u147, _, rfl⟩ rfl rfl ?_
      refine xgetD 46 (56) hH13 ⟨u147, _, rfl⟩ rfl (by decide) (by decide) rfl rfl (by decide) ?_
      refine xild 47 ⟨u147, _, rfl⟩ rfl rfl ?_
      refine xcallC 50 (o := 56) [.int _] [] hH13 ⟨u147, _, rfl⟩ rfl rfl (by decide) rfl (by decide) rfl ⟨rfl, rfl, rfl, rfl⟩ rfl (k_98E (i := b.toInt.toNat) hH13 C13 l315 (by omega) (by omega) (fun z47 h47 => ⟨_, rfl, ?_⟩))
      exact xretJ ⟨u147, _, rfl⟩ rfl (hR _ hp13 hH13 G13 (gTd_0.mpr ⟨by omega, by omega⟩) S13 h47)
    · exact xthr ⟨u147, _, rfl⟩ (by decide) rfl (by decide) (hT _ hp13 hH13 G13 S13 (by rw [gTd_1 (by omega)]; decide) ⟨gTd_1 (by omega), rfl⟩)
theorem u304 : bUp 0 am_m304.1 = true := by decide +kernel
theorem k_304E {d V n : Nat} {h : Nat → sR} {sv : Option sR} {T : sT} {ty : Nat → Int} {hp : amH} {R : xQ} {a b : Int32} (hH : bHk 84 bTT hp) (hP : P0 hp) (hS : rfS hp (V, T, ty) n h sv)
    (hR : ∀ (z : Int64) hp1, bHk 84 bTT hp1 → P0 hp1 → bFr wM hp hp1 → rN hp1 66 7 = gTd V T a.toInt b.toInt → ((¬ gTd V T a.toInt b.toInt = 0 ∧ rfS hp1 (V, T, ty) n h sv) ∨ (gTd V T a.toInt b.toInt = 0 ∧ rfS hp1 (V, T, ty) n h sv ∧ z.toInt = tdV V T a.toInt b.toInt)) → R (.inl (some (.long z))) hp1) : xK (d + 6) 304 [.ref 66, .int a, .int b] hp R := by
  refine xin (M := am_m304) rfl rfl rfl ?_
  refine xald 1 ⟨u304, _, rfl⟩ rfl rfl ?_
  refine xcst 2 (0) ⟨u304, _, rfl⟩ rfl (by decide) (fun z1 h1 => ?_)
  refine xputI 5 hH ⟨u304, _, rfl⟩ rfl rfl ⟨rfl, rfl⟩ (by omega) (by omega) (fun hp2 hH2 U2 => ?_)
  have s2 := U2.1
  have S2 := rfS_W (W := [(66, 7)]) hS (rU_fr U2 rfl) (fun _ => rfl) rfl rfl (fun _ => rfl) (fun _ => rfl)
  have P2 := P0_W (W := [(66, 7)]) (by decide) (rU_fr U2 rfl) hP
  refine xald 6 ⟨u304, _, rfl⟩ rfl rfl ?_
  refine xild 7 ⟨u304, _, rfl⟩ rfl rfl ?_
  refine xcall 10 [.ref 66, .int _] [] hH2 ⟨u304, _, rfl⟩ rfl rfl rfl rfl rfl (k_232E hH2 (show rdOk hp2 V T from rowOk_rd S2.1) (fun hp7 hH7 F7 B7 L7 C7 => ⟨_, rfl, ?_⟩))
  have S7 := rfS_W S2 F7 (fun _ => rfl) rfl rfl (fun _ => rfl) (fun _ => rfl)
  have P7 := P0_W (W := wTd) (by decide) F7 P2
  have c7 := C7.1
  have l315 := tdL_105 (n := 225) (L := a.toInt) B7.2.1 (Nat.le_refl _)
  have t7 : rN hp7 66 7 = 0 := (r_fr F7 rfl).trans (by rw [U2.1]; exact h1)
  have G7 : bFr wM hp hp7 := (rU_fr U2 (by decide)).trans (bFr_sub F7 (by decide))
  refine xald 11 ⟨u304, _, rfl⟩ rfl rfl ?_
  refine xild 12 ⟨u304, _, rfl⟩ rfl rfl ?_
  refine xcst 13 (0) ⟨u304, _, rfl⟩ rfl (by decide) (fun z12 h12 => ?_)
  refine xald 14 ⟨u304, _, rfl⟩ rfl rfl ?_
  refine xgetI 17 hH7 ⟨u304, _, rfl⟩ rfl rfl (fun z14 h14 => ?_)
  refine xcst 18 (1) ⟨u304, _, rfl⟩ rfl (by decide) (fun z17 h17 => ?_)
  refine xsub 19 _ ⟨u304, _, rfl⟩ rfl rfl (by omega) (by omega) (fun z18 h18 => ?_)
  refine xcallS 22 [.int _, .int _, .int _] [.ref 66] hH7 ⟨u304, _, rfl⟩ rfl rfl rfl rfl rfl (k_inr (fun z19 h19 => ⟨_, rfl, ?_⟩))
  refine xif_ne 25 ⟨u304, _, rfl⟩ rfl (fun c22 => ?_) (fun c22 => ?_)
  · have g0 : gTd V T a.toInt b.toInt = 0 := gTd_0.mpr ⟨by omega, by omega⟩
    have k0 := gTd_0.mp g0
    refine xcst 30 (0) ⟨u304, _, rfl⟩ rfl (by decide) (fun z29 h29 => ?_)
    refine xcst 31 (1) ⟨u304, _, rfl⟩ rfl (by decide) (fun z30 h30 => ?_)
    refine xcall 34 [.ref 66, .int _, .int _] [] hH7 ⟨u304, _, rfl⟩ rfl rfl rfl rfl rfl (k_failsE hH7 (by omega) (fun hp31 hH31 V31 => ⟨_, rfl, ?_⟩))
    refine xif_eq 37 ⟨u304, _, rfl⟩ rfl (fun c34 => ?_) (fun c34 => ?_)
    · obtain rfl : hp7 = hp31 := by
        rcases V31 with ⟨q1, e⟩ | ⟨q1, -⟩
        · exact e.symm
        · omega
      have ei : b.toInt.toNat < (tdL V T a.toInt 225).length := by omega
      refine xald 42 ⟨u304, _, rfl⟩ rfl rfl ?_
      refine xgetR 45 79 hH31 ⟨u304, _, rfl⟩ rfl rfl ?_
      refine xild 46 ⟨u304, _, rfl⟩ rfl rfl ?_
      refine xlald 47 (b).toInt.toNat hH31 ⟨u304, _, rfl⟩ rfl (by decide) rfl (by omega) (by omega) (fun z46 h46 => ?_)
      exact xretJ ⟨u304, _, rfl⟩ rfl (hR _ hp7 hH7 P7 G7 (by rw [t7, g0]) (Or.inr ⟨g0, S7, h46.trans (C7.2 _ ei)⟩))
    · rcases V31 with ⟨q1, -⟩ | ⟨q1, -⟩ <;> omega
  · have g1 : gTd V T a.toInt b.toInt = 1 := gTd_1 (by omega)
    refine xcst 26 (1) ⟨u304, _, rfl⟩ rfl (by decide) (fun z25 h25 => ?_)
    refine xgoto ⟨u304, _, rfl⟩ ?_
    refine xcst 31 (1) ⟨u304, _, rfl⟩ rfl (by decide) (fun z30 h30 => ?_)
    refine xcall 34 [.ref 66, .int _, .int _] [] hH7 ⟨u304, _, rfl⟩ rfl rfl rfl rfl rfl (k_failsE hH7 (by omega) (fun hp31 hH31 V31 => ⟨_, rfl, ?_⟩))
    refine xif_eq 37 ⟨u304, _, rfl⟩ rfl (fun c34 => ?_) (fun c34 => ?_)
    · rcases V31 with ⟨q1, -⟩ | ⟨q1, -⟩ <;> omega
    · refine xlcst 38 (0) ⟨u304, _, rfl⟩ rfl (by decide) (fun z37 h37 => ?_)
      refine xgoto ⟨u304, _, rfl⟩ ?_
      rcases V31 with ⟨q1, -⟩ | ⟨q1, U⟩
      · omega
      · exact xretJ ⟨u304, _, rfl⟩ rfl (hR _ hp31 hH31 (P0_W (W := [(66, 7)]) (by decide) (rU_fr U rfl) P7) (G7.trans (rU_fr U (by decide))) (by rw [U.1, g1]; omega) (Or.inl ⟨by rw [g1]; decide, rfS_W (W := [(66, 7)]) S7 (rU_fr U rfl) (fun _ => rfl) rfl rfl (fun _ => rfl) (fun _ => rfl)⟩))
theorem qKVE {d k : Nat} {av : List Value} {hp : amH} {S : cQ} {Φ : Int64 → amH → Prop} {Ψ : Nat → amH → Prop} (h : ∀ R : xQ, (∀ z hp1, Φ z hp1 → R (.inl (some (.long z))) hp1) → (∀ E hp1, Ψ E hp1 → R (.inr E) hp1) → xK d k av hp R) (hS : ∀ z hp1, Φ z hp1 → S (.inl (some (.long z))) hp1 0 0) (hE : ∀ E hp1, Ψ E hp1 → S (.inr E) hp1 1 6) : cK d k av hp S := by
  refine cK_mono (cK_of (h (fun y hp1 => (∃ z, y = .inl (some (.long z)) ∧ Φ z hp1) ∨ ∃ E, y = .inr E ∧ Ψ E hp1) (fun z hp1 g => Or.inl ⟨z, rfl, g⟩) (fun E hp1 g => Or.inr ⟨E, rfl, g⟩))) (fun y hp1 mc ms hh => ?_)
  obtain ⟨rfl, rfl, hh⟩ := hh
  rcases hh with ⟨z, rfl, g⟩ | ⟨E, rfl, g⟩
  · exact hS z hp1 g
  · exact hE E hp1 g
theorem h370E {d : Nat} {hp : amH} {R : cQ} {x1 x2 : Int32} {V n : Nat} {h : Nat → sR} {sv : Option sR} {T : sT} {ty : Nat → Int} (hI : lawI hp) (c : clS hp (V, T, ty) n h sv) (r : rfS hp (V, T, ty) n h sv)
    (hR : ∀ (z : Int32) hp1 mc ms, lawI hp1 → rfS hp1 (V, T, ty) n h sv → z.toInt = gTd V T x1.toInt x2.toInt → ((¬ gTd V T x1.toInt x2.toInt = 0 ∧ clS hp1 (V, T, ty) n h sv) ∨ (gTd V T x1.toInt x2.toInt = 0 ∧ clS hp1 (V, T, ty) n h sv ∧ rJ hp1 83 0 = tdV V T x1.toInt x2.toInt)) → mc ≤ 1 → ms ≤ 6 → R (.inl (some (.int z))) hp1 mc ms) : cK (d + 20) 370 [.ref 0, .int x1, .int x2, .ref 83] hp R := by
  refine cin (M := am_m370) rfl rfl rfl ?_
  refine cald 1 ⟨u370J, _, rfl⟩ rfl rfl ?_
  refine ccst 2 (0) ⟨u370J, _, rfl⟩ rfl (by decide) (fun z1 h1 => ?_)
  refine cald 3 ⟨u370J, _, rfl⟩ rfl rfl ?_
  refine cild 4 ⟨u370J, _, rfl⟩ rfl rfl ?_
  refine cild 5 ⟨u370J, _, rfl⟩ rfl rfl ?_
  refine ccall (kd := 0) (t := 1) [.ref 0, .int _, .int _] [.int _, .ref 83] hI.1 ⟨u370J, _, rfl⟩ (Or.inl ⟨_, rfl, rfl, by decide, by decide⟩) rfl rfl rfl ⟨rfl, rfl, rfl⟩ rfl (recv0 hI.1 _) rfl (qKVE (Φ := fun z hp1 => bHk 84 bTT hp1 ∧ cF hp hp1 ∧ gTd V T x1.toInt x2.toInt = 0 ∧ clS hp1 (V, T, ty) n h sv ∧ z.toInt = tdV V T x1.toInt x2.toInt) (Ψ := fun E hp1 => lawI hp1 ∧ rfS hp1 (V, T, ty) n h sv ∧ clS hp1 (V, T, ty) n h sv ∧ ¬ gTd V T x1.toInt x2.toInt = 0 ∧ ((gTd V T x1.toInt x2.toInt = 1 ∧ E = 3))) (fun R g1 g2 => k_147E (d := d + 13) hI.1 c (fun E hp1 b1 b2 b3 e1 e2 => g2 E hp1 ⟨law_cl hI b1 b2, cF_rf b2 r, b3, e1, e2⟩) (fun z hp1 a1 a2 a3 a4 a5 => g1 z hp1 ⟨a1, a2, a3, a4, a5⟩)) (fun z hp1 φ => Or.inl ⟨_, rfl, ?_⟩) (fun E hp1 ψ => Or.inr ?_))
  · refine clastE 9 φ.1 ⟨u370J, _, rfl⟩ rfl h1 (fun hp2 hH2 F2 J2 => ?_)
    refine cgoto ⟨u370J, _, rfl⟩ ?_
    refine ccst 17 (0) ⟨u370J, _, rfl⟩ rfl (by decide) (fun z9 h9 => ?_)
    exact cret ⟨u370J, _, rfl⟩ (Or.inl rfl) (hR _ _ _ _ (lawI_83 (law_cl hI φ.1 φ.2.1) hH2 F2) (rf_83 F2 (cF_rf φ.2.1 r)) (by rw [φ.2.2.1]; exact h9) (Or.inr ⟨φ.2.2.1, cl_83 F2 φ.2.2.2.1, by rw [J2]; exact φ.2.2.2.2⟩) (by decide) (by decide))
  · obtain ⟨ψ0, ψr, ψc, ψ1, ψ2⟩ := ψ
    obtain ⟨ce, rfl⟩ := ψ2
    refine ⟨3, 12, 4, 14, rfl, rfl, rfl, rfl, ?_⟩
    refine ccst 15 (1) ⟨u370J, _, rfl⟩ rfl (by decide) (fun z9 h9 => ?_)
    exact cret ⟨u370J, _, rfl⟩ (Or.inl rfl) (hR _ _ _ _ ψ0 ψr (by rw [ce]; exact h9) (Or.inl ⟨ψ1, ψc⟩) (by decide) (by decide))
section CW2
variable {sc : Option (List Int32)} {M : amM} {pc a b d : Nat} {L : List (Option Value)} {D : List (Nat × Value)} {st : List Value} {hp : amH} {Q : cQ}
theorem cWild2 (q : Nat) {k : Nat} {x : Int32} (h : xI M pc (.iload k) a b) (e : q = pc + 2) (l : lAt L k = some (some (.int x))) (hw : cW sc d M q L D (.int x :: st) hp Q) : cW sc d M pc L D st hp Q := by
  refine cWstep h (fun cl hl hd => ⟨cl, ?_, hl, hd⟩) hw
  have hg := (hl.2 _ _ l).2
  subst e
  simp [amDo, amStep, amLd, hg, isI_int]
theorem cWcst (q : Nat) (m : Int) {n : Int} (h : xI M pc (.iconst n) a b) (e : q = pc + 1) (hm : (Int32.ofInt n).toInt = m) (hw : ∀ z : Int32, z.toInt = m → cW sc d M q L D (.int z :: st) hp Q) : cW sc d M pc L D st hp Q := by
  refine cWstep h (fun cl hl hd => ⟨cl, ?_, hl, hd⟩) (hw _ hm)
  subst e
  simp [amDo, amStep]
theorem cWcmp_eq (q : Nat) {i : Int} {x y : Int32} (h : xI M pc (.if_icmp .eq i) a b) (e : q = pc + 3) (hw1 : x.toInt = y.toInt → cW sc d M a L D st hp Q) (hw2 : ¬ x.toInt = y.toInt → cW sc d M q L D st hp Q) : cW sc d M pc L D (.int y :: .int x :: st) hp Q := by
  subst e
  by_cases hx : x = y
  · refine cWstep h (fun cl hl hd => ⟨cl, ?_, hl, hd⟩) (hw1 (congrArg Int32.toInt hx))
    simp [amDo, amStep, amCmp, amCmpP, hx]
  · refine cWstep h (fun cl hl hd => ⟨cl, ?_, hl, hd⟩) (hw2 (fun z => hx (Int32.toInt_inj.mp z)))
    simp [amDo, amStep, amCmp, amCmpP, hx]
theorem cWlald (q : Nat) {x : Int32} (hH : bHk 84 bTT hp) (h : xI M pc .laload a b) (e : q = pc + 1) (hx : x.toInt = 0) (hw : ∀ z : Int64, z.toInt = rJ hp 83 0 → cW sc d M q L D (.long z :: st) hp Q) : cW sc d M pc L D (.int x :: .ref 83 :: st) hp Q := by
  obtain ⟨⟨t1, vs⟩, g1, g2, g3, g4⟩ := bHk_at hH (i := 83) (by decide) (D := (33, 1, [.inr (.inl 1)])) rfl
  have g2 : t1 = 33 := g2
  subst g2
  have g3 : vs.length = 1 := g3
  have hl2 : 0 < vs.length := by omega
  obtain ⟨y, k1, k2⟩ := g4 0 vs[0] (List.getElem?_eq_getElem hl2)
  rw [show bDy (33, 1, [.inr (.inl 1)]) 0 = some (.inr (.inl 1)) from rfl] at k1
  cases k1
  obtain ⟨w, ex⟩ := bT_J k2
  obtain ⟨e1, e2⟩ := rw_in (i := x) (n := 0) (m := vs.length) (by omega) hl2
  refine cWstep h (fun cl hl hd => ⟨cl, ?_, hl, hd⟩) (hw w ?_)
  · subst e
    simp [amDo, amStep, amALd, g1, e1, e2, amIsJ, List.getElem?_eq_getElem hl2, ex]
  · unfold rJ bFld
    rw [g1]
    dsimp only
    rw [List.getElem?_eq_getElem hl2, ex]
theorem cWlcmp (q : Nat) {x y : Int64} (h : xI M pc .lcmp a b) (e : q = pc + 1) (hw : ∀ z : Int32, ((z.toInt = -1 ∧ x.toInt < y.toInt) ∨ (z.toInt = 0 ∧ x.toInt = y.toInt) ∨ (z.toInt = 1 ∧ y.toInt < x.toInt)) → cW sc d M q L D (.int z :: st) hp Q) : cW sc d M pc L D (.long y :: .long x :: st) hp Q := by
  refine cWstep h (fun cl hl hd => ⟨cl, ?_, hl, hd⟩) (hw (lg_cmp x y) (lg_cmp_t x y))
  subst e
  simp [amDo, amStep, amLL]
end CW2
end
/-! ##### q38 ##### -/
section
/-! ===== agrees on both sides ===== -/
/-- the mask of a quadrilateral's triples -/
abbrev qM (T : sT) (q : Nat) : Nat := jL (qL T (cQ2 T q))
def agC (T : sT) (m : Nat) : Nat := sm (fun q => iv (qM T q = m)) (nQ T)
def agS (T : sT) (L : List Nat) (n : Nat) : Nat := sm (fun i => agC T (L.getD i 0)) n
def agI (V : Nat) (T : sT) : Int := if (tdL V T 4 225).length = nQ T ∧ agS T (tdL V T 4 225) (tdL V T 4 225).length = (tdL V T 4 225).length then 1 else 0
theorem ris_q {V n : Nat} {T : sT} (hT : sOk V T) (g2 : n < 42875) (g1 : qdB T n = true) : ris (qL T n) := by
  obtain ⟨⟨⟨b1, b2, b3, b4⟩, -⟩, ⟨l1, l2, l3⟩, -⟩ := qd_X hT g2 g1
  have l35 := trL_35 hT 225
  exact ⟨⟨by omega, fun y hy => by simp at hy; omega⟩, ⟨by omega, fun y hy => by simp at hy; omega⟩, ⟨by omega, fun y hy => by simp at hy; omega⟩, ⟨by omega, fun y hy => by simp at hy⟩, trivial⟩
theorem qL_inj {V : Nat} {T : sT} (hT : sOk V T) {q r : Nat} (hq : q < nQ T) (hr : r < nQ T) (e : qM T q = qM T r) : q = r := by
  have a := (sw_ok hT hq)
  have b := (sw_ok hT hr)
  have xa := (qd_X hT a.1 a.2.1).2.1
  have xb := (qd_X hT b.1 b.2.1).2.1
  have e : jL (qL T (cQ2 T q)) = jL (qL T (cQ2 T r)) := e
  have key : cQ2 T q = cQ2 T r := by
    generalize cQ2 T q = n at *
    generalize cQ2 T r = m at *
    have ra := ris_q hT a.1 a.2.1
    have rb := ris_q hT b.1 b.2.1
    have mm : ∀ u, u ∈ qL T n ↔ u ∈ qL T m := fun u => by
      rw [← jL_test u ra, ← jL_test u rb, e]
    have m1 := (mm (n / 1225)).mp (by simp [qL])
    have m2 := (mm (n / 35 % 35)).mp (by simp [qL])
    have m3_ := (mm (n % 35)).mp (by simp [qL])
    have m4 := (mm (ql T n)).mp (by simp [qL])
    have k1 := (mm (m / 1225)).mpr (by simp [qL])
    have k2 := (mm (m / 35 % 35)).mpr (by simp [qL])
    have k3 := (mm (m % 35)).mpr (by simp [qL])
    simp only [qL, List.mem_cons, List.not_mem_nil, or_false] at m1 m2 m3_ m4 k1 k2 k3
    omega
  have ga := fL_get 42875 q hq
  have gb := fL_get 42875 r hr
  exact ga.2.2.symm.trans ((congrArg (fun n => (fL (qdB T) n).length) key).trans gb.2.2)
theorem agC_1 {V : Nat} {T : sT} (hT : sOk V T) {m : Nat} : (agC T m = 1 ∧ ∃ q, q < nQ T ∧ qM T q = m) ∨ (agC T m = 0 ∧ ∀ q, q < nQ T → ¬ qM T q = m) := by
  by_cases h : ∃ q, q < nQ T ∧ qM T q = m
  · left
    obtain ⟨q, hq, e⟩ := h
    exact ⟨sm_one hq (iv_t e) (fun r hr hne => iv_f (fun z => hne (qL_inj hT hr hq (z.trans e.symm)))), q, hq, e⟩
  · right
    exact ⟨sm_none (fun q hq => iv_f (fun z => h ⟨q, hq, z⟩)), fun q hq z => h ⟨q, hq, z⟩⟩
theorem agS_s {V : Nat} {T : sT} (hT : sOk V T) {L : List Nat} : ∀ n, agS T L n ≤ n
  | 0 => Nat.le_refl _
  | n + 1 => by
    have ih := agS_s hT (L := L) n
    have e : agS T L (n + 1) = agS T L n + agC T (L.getD n 0) := rfl
    rcases agC_1 hT (m := L.getD n 0) with ⟨k, -⟩ | ⟨k, -⟩ <;> omega
theorem agS_lt {V : Nat} {T : sT} (hT : sOk V T) {L : List Nat} {i : Nat} (h0 : agC T (L.getD i 0) = 0) : ∀ k, agS T L (i + 1 + k) < i + 1 + k
  | 0 => by
    have e : agS T L (i + 1) = agS T L i + agC T (L.getD i 0) := rfl
    have := agS_s hT (L := L) i
    show agS T L (i + 1) < i + 1
    omega
  | k + 1 => by
    have ih := agS_lt hT h0 k
    have e : agS T L (i + 1 + (k + 1)) = agS T L (i + 1 + k) + agC T (L.getD (i + 1 + k) 0) := rfl
    rcases agC_1 hT (m := L.getD (i + 1 + k) 0) with ⟨q, -⟩ | ⟨q, -⟩ <;> omega
theorem u65 : bUp 0 am_m65.1 = true := by decide +kernel
theorem l65E {d V m : Nat} {T : sT} {hp : amH} {R : xQ} {z : Int64} (hH : bHk 84 bTT hp) (hT : sOk V T) (hQ : qdN hp T 42875) (hz : z.toInt = (m : Int))
    (hR : ∀ w : Int32, ((w.toInt = 1 ∧ ∃ q, q < nQ T ∧ qM T q = m) ∨ (w.toInt = 0 ∧ ∀ q, q < nQ T → ¬ qM T q = m)) → R (.inl (some (.int w))) hp) :
    ∀ (jj q : Nat) (wt : Int32), wt.toInt = (q : Int) → q + jj = nQ T → (∀ r, r < q → ¬ qM T r = m) → xV (d + 1) am_m65 2 [some (.ref 49), some (.long z), none, some (.int wt)] [] hp R := by
  have h105 : nQ T ≤ 105 := q105 hT
  have q0 : rN hp 49 0 = ((nQ T : Nat) : Int) := hQ.1
  intro jj
  induction jj with
  | zero =>
    intro q wt hwt hj hn
    have eq : q = nQ T := by omega
    rw [eq] at hn
    refine xild 3 ⟨u65, _, rfl⟩ rfl rfl ?_
    refine xald 4 ⟨u65, _, rfl⟩ rfl rfl ?_
    refine xgetC 7 hH ⟨u65, _, rfl⟩ rfl (by decide) (by decide) rfl rfl (by decide) (fun z4 h4 => ?_)
    refine xcmp_ge 10 ⟨u65, _, rfl⟩ rfl (fun c7 => ?_) (fun c7 => ?_)
    · refine xcst 29 (0) ⟨u65, _, rfl⟩ rfl (by decide) (fun z28 h28 => ?_)
      exact xretB ⟨u65, _, rfl⟩ rfl (by omega) (hR _ (Or.inr ⟨by omega, hn⟩))
    · omega
  | succ jj ih =>
    intro q wt hwt hj hn
    have dq := (qd_at hT hQ (q := q) (n := cQ2 T q) (by omega) rfl).2.2.2.1
    refine xild 3 ⟨u65, _, rfl⟩ rfl rfl ?_
    refine xald 4 ⟨u65, _, rfl⟩ rfl rfl ?_
    refine xgetC 7 hH ⟨u65, _, rfl⟩ rfl (by decide) (by decide) rfl rfl (by decide) (fun z4 h4 => ?_)
    refine xcmp_ge 10 ⟨u65, _, rfl⟩ rfl (fun c7 => ?_) (fun c7 => ?_)
    · omega
    · refine xald 11 ⟨u65, _, rfl⟩ rfl rfl ?_
      refine xild 12 ⟨u65, _, rfl⟩ rfl rfl ?_
      refine xcallC 15 (o := 49) [.int _] [] hH ⟨u65, _, rfl⟩ rfl rfl (by decide) rfl (by decide) rfl ⟨rfl, rfl, rfl, rfl⟩ rfl (k_mkQ (q := q) hH hwt (by omega) (fun z12 h12 => ⟨_, rfl, ?_⟩))
      rw [dq] at h12
      refine xlld 16 ⟨u65, _, rfl⟩ rfl rfl ?_
      refine xlcmp 17 ⟨u65, _, rfl⟩ rfl (fun z16 h16 => ?_)
      refine xif_ne 20 ⟨u65, _, rfl⟩ rfl (fun c17 => ?_) (fun c17 => ?_)
      · refine xinc 25 (1) ⟨u65, _, rfl⟩ rfl rfl rfl (by decide) (by omega) (by omega) (fun z22 h22 => ?_)
        refine xgoto ⟨u65, _, rfl⟩ ?_
        exact ih (q + 1) _ (by omega) (by omega) (fun r hr => by
          by_cases e : r = q
          · rw [e]; omega
          · exact hn r (by omega))
      · refine xcst 21 (1) ⟨u65, _, rfl⟩ rfl (by decide) (fun z20 h20 => ?_)
        exact xretB ⟨u65, _, rfl⟩ rfl (by omega) (hR _ (Or.inl ⟨by omega, q, by omega, by omega⟩))
theorem k_65E {d V m : Nat} {T : sT} {hp : amH} {R : xQ} {z : Int64} (hH : bHk 84 bTT hp) (hT : sOk V T) (hQ : qdN hp T 42875) (hz : z.toInt = (m : Int))
    (hR : ∀ w : Int32, ((w.toInt = 1 ∧ ∃ q, q < nQ T ∧ qM T q = m) ∨ (w.toInt = 0 ∧ ∀ q, q < nQ T → ¬ qM T q = m)) → R (.inl (some (.int w))) hp) : xK (d + 1) 65 [.ref 49, .long z] hp R := by
  refine xin (M := am_m65) rfl rfl rfl ?_
  refine xcst 1 (0) ⟨u65, _, rfl⟩ rfl (by decide) (fun z0 h0 => ?_)
  refine xist 2 ⟨u65, _, rfl⟩ rfl rfl ?_
  exact l65E hH hT hQ hz hR (nQ T) 0 _ h0 (by omega) (fun r hr => by omega)
theorem u149 : bUp 0 am_m149.1 = true := by decide +kernel
theorem l149E {d V : Nat} {T : sT} {L : List Nat} {hp : amH} {R : xQ} (hH : bHk 84 bTT hp) (hT : sOk V T) (hQ : qdN hp T 42875) (hC : tdC hp L) (l315 : L.length ≤ 315)
    (hR : ∀ w : Int32, w.toInt = (if agS T L L.length = L.length then 1 else 0) → R (.inl (some (.int w))) hp) :
    ∀ (jj i : Nat) (wt : Int32), wt.toInt = (i : Int) → i + jj = L.length → agS T L i = i → xV (d + 2) am_m149 37 [some (.ref 0), some (.int wt)] [] hp R := by
  have c0 := hC.1
  intro jj
  induction jj with
  | zero =>
    intro i wt hwt hj hn
    have ei : i = L.length := by omega
    rw [ei] at hn
    refine xild 38 ⟨u149, _, rfl⟩ rfl rfl ?_
    refine xald 39 ⟨u149, _, rfl⟩ rfl rfl ?_
    refine xgetD 42 (56) hH ⟨u149, _, rfl⟩ rfl (by decide) (by decide) rfl rfl (by decide) ?_
    refine xgetC 45 hH ⟨u149, _, rfl⟩ rfl (by decide) (by decide) rfl rfl (by decide) (fun z42 h42 => ?_)
    refine xcmp_ge 48 ⟨u149, _, rfl⟩ rfl (fun c45 => ?_) (fun c45 => ?_)
    · refine xcst 75 (1) ⟨u149, _, rfl⟩ rfl (by decide) (fun z74 h74 => ?_)
      exact xretB ⟨u149, _, rfl⟩ rfl (by omega) (hR _ (by rw [if_pos hn]; exact h74))
    · omega
  | succ jj ih =>
    intro i wt hwt hj hn
    have es : agS T L (i + 1) = agS T L i + agC T (L.getD i 0) := rfl
    have two := agC_1 hT (m := L.getD i 0)
    refine xild 38 ⟨u149, _, rfl⟩ rfl rfl ?_
    refine xald 39 ⟨u149, _, rfl⟩ rfl rfl ?_
    refine xgetD 42 (56) hH ⟨u149, _, rfl⟩ rfl (by decide) (by decide) rfl rfl (by decide) ?_
    refine xgetC 45 hH ⟨u149, _, rfl⟩ rfl (by decide) (by decide) rfl rfl (by decide) (fun z42 h42 => ?_)
    refine xcmp_ge 48 ⟨u149, _, rfl⟩ rfl (fun c45 => ?_) (fun c45 => ?_)
    · omega
    · refine xald 49 ⟨u149, _, rfl⟩ rfl rfl ?_
      refine xgetD 52 (49) hH ⟨u149, _, rfl⟩ rfl (by decide) (by decide) rfl rfl (by decide) ?_
      refine xald 53 ⟨u149, _, rfl⟩ rfl rfl ?_
      refine xgetD 56 (56) hH ⟨u149, _, rfl⟩ rfl (by decide) (by decide) rfl rfl (by decide) ?_
      refine xild 57 ⟨u149, _, rfl⟩ rfl rfl ?_
      refine xcallC 60 (o := 56) [.int _] [.ref 49] hH ⟨u149, _, rfl⟩ rfl rfl (by decide) rfl (by decide) rfl ⟨rfl, rfl, rfl, rfl⟩ rfl (k_98E (i := i) hH hC l315 hwt (by omega) (fun z57 h57 => ⟨_, rfl, ?_⟩))
      refine xcallC 63 (o := 49) [.long _] [] hH ⟨u149, _, rfl⟩ rfl rfl (by decide) rfl (by decide) rfl ⟨rfl, rfl, rfl, rfl⟩ rfl (k_65E (m := L.getD i 0) hH hT hQ h57 (fun z60 h60 => ⟨_, rfl, ?_⟩))
      refine xif_ne 66 ⟨u149, _, rfl⟩ rfl (fun c63 => ?_) (fun c63 => ?_)
      · refine xinc 71 (1) ⟨u149, _, rfl⟩ rfl rfl rfl (by decide) (by omega) (by omega) (fun z68 h68 => ?_)
        refine xgoto ⟨u149, _, rfl⟩ ?_
        have g1 : agC T (L.getD i 0) = 1 := by
          rcases h60 with ⟨-, q, q1, q2⟩ | ⟨a, -⟩
          · rcases two with ⟨b, -⟩ | ⟨-, b⟩
            · exact b
            · exact absurd q2 (b q q1)
          · omega
        exact ih (i + 1) _ (by omega) (by omega) (by omega)
      · refine xcst 67 (0) ⟨u149, _, rfl⟩ rfl (by decide) (fun z66 h66 => ?_)
        have g0 : agC T (L.getD i 0) = 0 := by
          rcases h60 with ⟨a, -⟩ | ⟨-, a⟩
          · omega
          · rcases two with ⟨-, q, q1, q2⟩ | ⟨b, -⟩
            · exact absurd q2 (a q q1)
            · exact b
        have lt := agS_lt hT g0 jj
        rw [show i + 1 + jj = L.length by omega] at lt
        exact xretB ⟨u149, _, rfl⟩ rfl (by omega) (hR _ (by rw [if_neg (by omega)]; exact h66))
theorem k_149E {d V n : Nat} {h : Nat → sR} {sv : Option sR} {T : sT} {ty : Nat → Int} {hp : amH} {R : xQ} (hH : bHk 84 bTT hp) (hS : clS hp (V, T, ty) n h sv)
    (hR : ∀ (z : Int32) hp1, bHk 84 bTT hp1 → cF hp hp1 → clS hp1 (V, T, ty) n h sv → z.toInt = agI V T → R (.inl (some (.int z))) hp1) : xK (d + 6) 149 [.ref 0] hp R := by
  have hB : bdOk hp 3 V T := hS.1
  have b0 : rN hp 3 0 = (V : Int) := hB.1
  have hL : lsN hp 3 T 225 := hS.2.1
  have b1 : rN hp 3 1 = (((trL T 225).length : Nat) : Int) := hL.1
  have hT0 : sOk V T := hB.2.1
  have h15 : V ≤ 15 := hT0.2.1
  have l35 : (trL T 225).length ≤ 35 := trL_35 hT0 225
  have nq0 : rN hp 49 0 = ((nQ T : Nat) : Int) := hS.2.2.1.1
  refine xin (M := am_m149) rfl rfl rfl ?_
  refine xald 1 ⟨u149, _, rfl⟩ rfl rfl ?_
  refine xgetD 4 (56) hH ⟨u149, _, rfl⟩ rfl (by decide) (by decide) rfl rfl (by decide) ?_
  refine xald 5 ⟨u149, _, rfl⟩ rfl rfl ?_
  refine xgetD 8 (3) hH ⟨u149, _, rfl⟩ rfl (by decide) (by decide) rfl rfl (by decide) ?_
  refine xald 9 ⟨u149, _, rfl⟩ rfl rfl ?_
  refine xgetD 12 (52) hH ⟨u149, _, rfl⟩ rfl (by decide) (by decide) rfl rfl (by decide) ?_
  refine xcst 13 (4) ⟨u149, _, rfl⟩ rfl (by decide) (fun z12 h12 => ?_)
  refine xcallC 16 (o := 56) [.ref 3, .ref 52, .int _] [] hH ⟨u149, _, rfl⟩ rfl rfl (by decide) rfl (by decide) rfl ⟨rfl, rfl, rfl, rfl⟩ rfl (k_95E hH hB hL (fun hp13 hH13 F13 C13 => ⟨_, rfl, ?_⟩))
  rw [h12] at C13
  have c13 := C13.1
  have l315 := tdL_105 (n := 225) (L := 4) hT0 (Nat.le_refl _)
  have Q13 : qdN hp13 T 42875 := qdN_fr hS.2.2.1 (fun c k hc => F13 c k (by simp; omega))
  have q13 : rN hp13 49 0 = ((nQ T : Nat) : Int) := Q13.1
  have G13 : cF hp hp13 := cF_x F13 (by simp)
  have S13 : clS hp13 (V, T, ty) n h sv := clS_8 hS (fun c k hc => F13 c k (by simp; omega))
  refine xald 17 ⟨u149, _, rfl⟩ rfl rfl ?_
  refine xgetD 20 (56) hH13 ⟨u149, _, rfl⟩ rfl (by decide) (by decide) rfl rfl (by decide) ?_
  refine xgetC 23 hH13 ⟨u149, _, rfl⟩ rfl (by decide) (by decide) rfl rfl (by decide) (fun z20 h20 => ?_)
  refine xald 24 ⟨u149, _, rfl⟩ rfl rfl ?_
  refine xgetD 27 (49) hH13 ⟨u149, _, rfl⟩ rfl (by decide) (by decide) rfl rfl (by decide) ?_
  refine xgetC 30 hH13 ⟨u149, _, rfl⟩ rfl (by decide) (by decide) rfl rfl (by decide) (fun z27 h27 => ?_)
  refine xcmp_eq 33 ⟨u149, _, rfl⟩ rfl (fun c30 => ?_) (fun c30 => ?_)
  · have el : (tdL V T 4 225).length = nQ T := by omega
    refine xcst 36 (0) ⟨u149, _, rfl⟩ rfl (by decide) (fun z35 h35 => ?_)
    refine xist 37 ⟨u149, _, rfl⟩ rfl rfl ?_
    refine l149E hH13 hT0 Q13 C13 l315 (fun w hw => hR w hp13 hH13 G13 S13 ?_) (tdL V T 4 225).length 0 _ h35 (by omega) rfl
    rw [hw]
    unfold agI
    by_cases g : agS T (tdL V T 4 225) (tdL V T 4 225).length = (tdL V T 4 225).length
    · rw [if_pos g, if_pos ⟨el, g⟩]
    · rw [if_neg g, if_neg (fun z => g z.2)]
  · refine xcst 34 (0) ⟨u149, _, rfl⟩ rfl (by decide) (fun z33 h33 => ?_)
    exact xretB ⟨u149, _, rfl⟩ rfl (by omega) (hR _ hp13 hH13 G13 S13 (by unfold agI; rw [if_neg (fun z => by omega)]; exact h33))
theorem u307 : bUp 0 am_m307.1 = true := by decide +kernel
theorem tdO_4 {T : sT} {V q : Nat} (hT : sOk V T) (hq : q < nQ T) : tdO (fun k => (qL T (cQ2 T q)).getD k 0) 4 = qM T q := by
  have a := sw_ok hT hq
  have x := (qd_X hT a.1 a.2.1).2.1
  show 0 ||| 2 ^ (cQ2 T q / 1225) ||| 2 ^ (cQ2 T q / 35 % 35) ||| 2 ^ (cQ2 T q % 35) ||| 2 ^ (ql T (cQ2 T q)) = _
  rw [Nat.zero_or]
  exact jL_4 x.1 x.2.1 x.2.2
theorem l307E {d V q : Nat} {T : sT} {hp : amH} {R : xQ} {a : Int32} (hH : bHk 84 bTT hp) (hT : sOk V T) (hQ : rqN hp T 42875) (hq : q < nQ T) (ha : a.toInt = (q : Int))
    (hR : ∀ z : Int64, z.toInt = ((qM T q : Nat) : Int) → R (.inl (some (.long z))) hp) :
    ∀ (jj k : Nat) (z : Int64) (w : Int32), w.toInt = (k : Int) → k + jj = 4 → z.toInt = ((tdO (fun k => (qL T (cQ2 T q)).getD k 0) k : Nat) : Int) → xV d am_m307 5 [some (.ref 66), some (.int a), some (.long z), none, some (.int w)] [] hp R := by
  have h105 : nQ T ≤ 105 := q105 hT
  obtain ⟨gt, -⟩ := rq_get hT hQ hq
  intro jj
  induction jj with
  | zero =>
    intro k z w hw hj hz
    have ek : k = 4 := by omega
    rw [ek, tdO_4 hT hq] at hz
    refine xild2 7 ⟨u307, _, rfl⟩ rfl rfl ?_
    refine xcst 8 (4) ⟨u307, _, rfl⟩ rfl (by decide) (fun z7 h7 => ?_)
    refine xcmp_ge 11 ⟨u307, _, rfl⟩ rfl (fun c8 => ?_) (fun c8 => ?_)
    · refine xlld 34 ⟨u307, _, rfl⟩ rfl rfl ?_
      exact xretJ ⟨u307, _, rfl⟩ rfl (hR _ hz)
    · omega
  | succ jj ih =>
    intro k z w hw hj hz
    have gk := gt k (by omega)
    have lk1 := (qL_lt hT hq k (by omega)).1
    have l35 := trL_35 hT 225
    refine xild2 7 ⟨u307, _, rfl⟩ rfl rfl ?_
    refine xcst 8 (4) ⟨u307, _, rfl⟩ rfl (by decide) (fun z7 h7 => ?_)
    refine xcmp_ge 11 ⟨u307, _, rfl⟩ rfl (fun c8 => ?_) (fun c8 => ?_)
    · omega
    · refine xlld 12 ⟨u307, _, rfl⟩ rfl rfl ?_
      refine xlcst 13 (1) ⟨u307, _, rfl⟩ rfl (by decide) (fun z12 h12 => ?_)
      refine xald 14 ⟨u307, _, rfl⟩ rfl rfl ?_
      refine xgetR 17 76 hH ⟨u307, _, rfl⟩ rfl rfl ?_
      refine xcst 18 (4) ⟨u307, _, rfl⟩ rfl (by decide) (fun z17 h17 => ?_)
      refine xild 19 ⟨u307, _, rfl⟩ rfl rfl ?_
      refine xmul 20 (4 * Int32.toInt a) ⟨u307, _, rfl⟩ rfl (by rw [h17]) (by omega) (by omega) (fun z19 h19 => ?_)
      refine xild2 22 ⟨u307, _, rfl⟩ rfl rfl ?_
      refine xadd 23 _ ⟨u307, _, rfl⟩ rfl rfl (by omega) (by omega) (fun z22 h22 => ?_)
      refine xiald 24 (z22).toInt.toNat hH ⟨u307, _, rfl⟩ rfl (by decide) rfl (by omega) (by omega) (fun z23 h23 => ?_)
      have ek : z22.toInt.toNat = 4 * q + k := by omega
      rw [ek, gk] at h23
      have v1 := j_shl (o := z12) (c := z23) (k := (qL T (cQ2 T q)).getD k 0) h12 h23 (by omega)
      have v2 := j_or hz v1
      refine xlshl 25 ⟨u307, _, rfl⟩ rfl ?_
      refine xlor 26 ⟨u307, _, rfl⟩ rfl ?_
      refine xlst 27 ⟨u307, _, rfl⟩ rfl rfl ?_
      refine xinc 30 (1) ⟨u307, _, rfl⟩ rfl rfl rfl (by decide) (by omega) (by omega) (fun z27 h27 => ?_)
      refine xgoto ⟨u307, _, rfl⟩ ?_
      exact ih (k + 1) _ _ (by omega) (by omega) v2
theorem k_307E {d V q : Nat} {T : sT} {hp : amH} {R : xQ} {a : Int32} (hH : bHk 84 bTT hp) (hT : sOk V T) (hQ : rqN hp T 42875) (hq : q < nQ T) (ha : a.toInt = (q : Int))
    (hR : ∀ z : Int64, z.toInt = ((qM T q : Nat) : Int) → R (.inl (some (.long z))) hp) : xK d 307 [.ref 66, .int a] hp R := by
  refine xin (M := am_m307) rfl rfl rfl ?_
  refine xlcst 1 (0) ⟨u307, _, rfl⟩ rfl (by decide) (fun z0 h0 => ?_)
  refine xlst 2 ⟨u307, _, rfl⟩ rfl rfl ?_
  refine xcst 3 (0) ⟨u307, _, rfl⟩ rfl (by decide) (fun z2 h2 => ?_)
  refine xist2 5 ⟨u307, _, rfl⟩ rfl rfl ?_
  exact l307E hH hT hQ hq ha hR 4 0 _ _ h2 (by omega) h0
theorem dg_leA {f : Nat → Nat} (h : ∀ i, f i ≤ 1) : ∀ n, sm f n ≤ n
  | 0 => Nat.le_refl _
  | n + 1 => by
    have h1 := dg_leA h n
    have h2 := h n
    show sm f n + f n ≤ n + 1
    omega
theorem u308 : bUp 0 am_m308.1 = true := by decide +kernel
theorem l308q {d V m w0 k : Nat} {T : sT} {L : List Nat} {hp : amH} {R : xQ} {wk : Int32} (hH : bHk 84 bTT hp) (hT : sOk V T) (hQ : rqN hp T 42875) (hC : tdR hp L) (l315 : L.length ≤ 315) (hwk : wk.toInt = (k : Int)) (hk : k < L.length) (hm : L.getD k 0 = m) (hw0 : w0 ≤ 400)
    (hX : ∀ (w wq : Int32), w.toInt = ((w0 + agC T m : Nat) : Int) → xV (d + 1) am_m308 78 [some (.ref 66), some (.int w), some (.int wk), some (.int wq)] [] hp R) :
    ∀ (jj q : Nat) (w wq : Int32), wq.toInt = (q : Int) → q + jj = nQ T → w.toInt = ((w0 + sm (fun q => iv (qM T q = m)) q : Nat) : Int) → xV (d + 1) am_m308 41 [some (.ref 66), some (.int w), some (.int wk), some (.int wq)] [] hp R := by
  have h105 : nQ T ≤ 105 := q105 hT
  have q0 : rN hp 66 14 = ((nQ T : Nat) : Int) := hQ.1
  intro jj
  induction jj with
  | zero =>
    intro q w wq hwq hj hw
    have eq : q = nQ T := by omega
    rw [eq] at hw
    refine xild 42 ⟨u308, _, rfl⟩ rfl rfl ?_
    refine xald 43 ⟨u308, _, rfl⟩ rfl rfl ?_
    refine xgetI 46 hH ⟨u308, _, rfl⟩ rfl rfl (fun z43 h43 => ?_)
    refine xcmp_ge 49 ⟨u308, _, rfl⟩ rfl (fun c46 => ?_) (fun c46 => ?_)
    · exact hX _ _ hw
    · omega
  | succ jj ih =>
    intro q w wq hwq hj hw
    have e3 : sm (fun q => iv (qM T q = m)) (q + 1) = sm (fun q => iv (qM T q = m)) q + iv (qM T q = m) := rfl
    have k2 : sm (fun q => iv (qM T q = m)) q ≤ q := dg_leA (fun i => iv_le) q
    have ck := hC.2 k hk
    refine xild 42 ⟨u308, _, rfl⟩ rfl rfl ?_
    refine xald 43 ⟨u308, _, rfl⟩ rfl rfl ?_
    refine xgetI 46 hH ⟨u308, _, rfl⟩ rfl rfl (fun z43 h43 => ?_)
    refine xcmp_ge 49 ⟨u308, _, rfl⟩ rfl (fun c46 => ?_) (fun c46 => ?_)
    · omega
    · refine xild 50 ⟨u308, _, rfl⟩ rfl rfl ?_
      refine xald 51 ⟨u308, _, rfl⟩ rfl rfl ?_
      refine xild 52 ⟨u308, _, rfl⟩ rfl rfl ?_
      refine xcall 55 [.ref 66, .int _] [.int _] hH ⟨u308, _, rfl⟩ rfl rfl rfl rfl rfl (k_307E (q := q) hH hT hQ (by omega) hwq (fun z52 h52 => ⟨_, rfl, ?_⟩))
      refine xald 56 ⟨u308, _, rfl⟩ rfl rfl ?_
      refine xgetR 59 79 hH ⟨u308, _, rfl⟩ rfl rfl ?_
      refine xild 60 ⟨u308, _, rfl⟩ rfl rfl ?_
      refine xlald 61 (wk).toInt.toNat hH ⟨u308, _, rfl⟩ rfl (by decide) rfl (by omega) (by omega) (fun z60 h60 => ?_)
      have ek : wk.toInt.toNat = k := by omega
      rw [ek, ck, hm] at h60
      refine xlcmp 62 ⟨u308, _, rfl⟩ rfl (fun z61 h61 => ?_)
      refine xif_ne 65 ⟨u308, _, rfl⟩ rfl (fun c62 => ?_) (fun c62 => ?_)
      · refine xcst 70 (0) ⟨u308, _, rfl⟩ rfl (by decide) (fun z69 h69 => ?_)
        refine xadd 71 _ ⟨u308, _, rfl⟩ rfl rfl (by omega) (by omega) (fun z70 h70 => ?_)
        refine xist 72 ⟨u308, _, rfl⟩ rfl rfl ?_
        refine xinc 75 (1) ⟨u308, _, rfl⟩ rfl rfl rfl (by decide) (by omega) (by omega) (fun z72 h72 => ?_)
        refine xgoto ⟨u308, _, rfl⟩ ?_
        rw [iv_f (p := qM T q = m) (by omega)] at e3
        exact ih (q + 1) _ _ (by omega) (by omega) (by omega)
      · refine xcst 66 (1) ⟨u308, _, rfl⟩ rfl (by decide) (fun z65 h65 => ?_)
        refine xgoto ⟨u308, _, rfl⟩ ?_
        refine xadd 71 _ ⟨u308, _, rfl⟩ rfl rfl (by omega) (by omega) (fun z70 h70 => ?_)
        refine xist 72 ⟨u308, _, rfl⟩ rfl rfl ?_
        refine xinc 75 (1) ⟨u308, _, rfl⟩ rfl rfl rfl (by decide) (by omega) (by omega) (fun z72 h72 => ?_)
        refine xgoto ⟨u308, _, rfl⟩ ?_
        rw [iv_t (p := qM T q = m) (by omega)] at e3
        exact ih (q + 1) _ _ (by omega) (by omega) (by omega)
theorem l308k {d V : Nat} {T : sT} {L : List Nat} {hp : amH} {R : xQ} (hH : bHk 84 bTT hp) (hT : sOk V T) (hQ : rqN hp T 42875) (hC : tdR hp L) (l315 : L.length ≤ 315)
    (hR : ∀ z : Int32, z.toInt = (if agS T L L.length = L.length then 1 else 0) → R (.inl (some (.int z))) hp) :
    ∀ (jj k : Nat) (w wk : Int32) (v3 : Option Value), wk.toInt = (k : Int) → k + jj = L.length → w.toInt = ((agS T L k : Nat) : Int) → xV (d + 1) am_m308 31 [some (.ref 66), some (.int w), some (.int wk), v3] [] hp R := by
  have c0 := hC.1
  intro jj
  induction jj with
  | zero =>
    intro k w wk v3 hwk hj hw
    have ek : k = L.length := by omega
    rw [ek] at hw
    refine xild 32 ⟨u308, _, rfl⟩ rfl rfl ?_
    refine xald 33 ⟨u308, _, rfl⟩ rfl rfl ?_
    refine xgetI 36 hH ⟨u308, _, rfl⟩ rfl rfl (fun z33 h33 => ?_)
    refine xcmp_ge 39 ⟨u308, _, rfl⟩ rfl (fun c36 => ?_) (fun c36 => ?_)
    · refine xild 85 ⟨u308, _, rfl⟩ rfl rfl ?_
      refine xald 86 ⟨u308, _, rfl⟩ rfl rfl ?_
      refine xgetI 89 hH ⟨u308, _, rfl⟩ rfl rfl (fun z86 h86 => ?_)
      refine xcmp_ne 92 ⟨u308, _, rfl⟩ rfl (fun c89 => ?_) (fun c89 => ?_)
      · refine xcst 97 (0) ⟨u308, _, rfl⟩ rfl (by decide) (fun z96 h96 => ?_)
        exact xretB ⟨u308, _, rfl⟩ rfl (by omega) (hR _ (by rw [if_neg (by omega)]; exact h96))
      · refine xcst 93 (1) ⟨u308, _, rfl⟩ rfl (by decide) (fun z92 h92 => ?_)
        refine xgoto ⟨u308, _, rfl⟩ ?_
        exact xretB ⟨u308, _, rfl⟩ rfl (by omega) (hR _ (by rw [if_pos (by omega)]; exact h92))
    · omega
  | succ jj ih =>
    intro k w wk v3 hwk hj hw
    have ks := agS_s hT (L := L) k
    refine xild 32 ⟨u308, _, rfl⟩ rfl rfl ?_
    refine xald 33 ⟨u308, _, rfl⟩ rfl rfl ?_
    refine xgetI 36 hH ⟨u308, _, rfl⟩ rfl rfl (fun z33 h33 => ?_)
    refine xcmp_ge 39 ⟨u308, _, rfl⟩ rfl (fun c36 => ?_) (fun c36 => ?_)
    · omega
    · refine xcst 40 (0) ⟨u308, _, rfl⟩ rfl (by decide) (fun z39 h39 => ?_)
      refine xist 41 ⟨u308, _, rfl⟩ rfl rfl ?_
      refine l308q (w0 := agS T L k) (m := L.getD k 0) hH hT hQ hC l315 hwk (by omega) rfl (by omega) (fun w1 wq r1 => ?_) (nQ T) 0 _ _ h39 (by omega) hw
      refine xinc 81 (1) ⟨u308, _, rfl⟩ rfl rfl rfl (by decide) (by omega) (by omega) (fun z78 h78 => ?_)
      refine xgoto ⟨u308, _, rfl⟩ ?_
      exact ih (k + 1) _ _ _ (by omega) (by omega) r1
theorem k_308E {d V n : Nat} {h : Nat → sR} {sv : Option sR} {T : sT} {ty : Nat → Int} {hp : amH} {R : xQ} (hH : bHk 84 bTT hp) (hP : P0 hp) (hS : rfS hp (V, T, ty) n h sv)
    (hR : ∀ (z : Int32) hp1, bHk 84 bTT hp1 → P0 hp1 → bFr wM hp hp1 → rfS hp1 (V, T, ty) n h sv → z.toInt = agI V T → R (.inl (some (.int z))) hp1) : xK (d + 6) 308 [.ref 66] hp R := by
  have hB : rdOk hp V T := rowOk_rd hS.1
  have b0 : rN hp 67 0 = (V : Int) := hB.1
  have hT0 : sOk V T := hB.2.1
  have h15 : V ≤ 15 := hT0.2.1
  have l35 : (trL T 225).length ≤ 35 := trL_35 hT0 225
  refine xin (M := am_m308) rfl rfl rfl ?_
  refine xald 1 ⟨u308, _, rfl⟩ rfl rfl ?_
  refine xcst 2 (0) ⟨u308, _, rfl⟩ rfl (by decide) (fun z1 h1 => ?_)
  refine xputI 5 hH ⟨u308, _, rfl⟩ rfl rfl ⟨rfl, rfl⟩ (by omega) (by omega) (fun hp2 hH2 U2 => ?_)
  have s2 := U2.1
  have S2 := rfS_W (W := [(66, 7)]) hS (rU_fr U2 rfl) (fun _ => rfl) rfl rfl (fun _ => rfl) (fun _ => rfl)
  have P2 := P0_W (W := [(66, 7)]) (by decide) (rU_fr U2 rfl) hP
  refine xald 6 ⟨u308, _, rfl⟩ rfl rfl ?_
  refine xcall 9 [.ref 66] [] hH2 ⟨u308, _, rfl⟩ rfl rfl rfl rfl rfl (k_lqs hH2 (show rdOk hp2 V T from rowOk_rd S2.1) (q105 hT0) (fun hp6 hH6 F6 B6 L6 Q6 => ⟨_, rfl, ?_⟩))
  have S6 := rfS_W S2 F6 (fun _ => rfl) rfl rfl (fun _ => rfl) (fun _ => rfl)
  have P6 := P0_W (W := wLQE) (by decide) F6 P2
  refine xald 10 ⟨u308, _, rfl⟩ rfl rfl ?_
  refine xcst 11 (4) ⟨u308, _, rfl⟩ rfl (by decide) (fun z10 h10 => ?_)
  refine xcall 14 [.ref 66, .int _] [] hH6 ⟨u308, _, rfl⟩ rfl rfl rfl rfl rfl (k_232E hH6 B6 (fun hp11 hH11 F11 B11 L11 C11 => ⟨_, rfl, ?_⟩))
  rw [h10] at C11
  have S11 := rfS_W S6 F11 (fun _ => rfl) rfl rfl (fun _ => rfl) (fun _ => rfl)
  have P11 := P0_W (W := wTd) (by decide) F11 P6
  have Q11 : rqN hp11 T 42875 := rqN_fr Q6 (r_fr F11 rfl) (fun i => r_fr F11 rfl)
  have q11 : rN hp11 66 14 = ((nQ T : Nat) : Int) := Q11.1
  have c11 := C11.1
  have l315 := tdL_105 (n := 225) (L := 4) hT0 (Nat.le_refl _)
  have G11 : bFr wM hp hp11 := ((rU_fr U2 (by decide)).trans (bFr_sub F6 (by decide))).trans (bFr_sub F11 (by decide))
  refine xald 15 ⟨u308, _, rfl⟩ rfl rfl ?_
  refine xgetI 18 hH11 ⟨u308, _, rfl⟩ rfl rfl (fun z15 h15 => ?_)
  refine xald 19 ⟨u308, _, rfl⟩ rfl rfl ?_
  refine xgetI 22 hH11 ⟨u308, _, rfl⟩ rfl rfl (fun z19 h19 => ?_)
  refine xcmp_eq 25 ⟨u308, _, rfl⟩ rfl (fun c22 => ?_) (fun c22 => ?_)
  · have el : (tdL V T 4 225).length = nQ T := by omega
    refine xcst 28 (0) ⟨u308, _, rfl⟩ rfl (by decide) (fun z27 h27 => ?_)
    refine xist 29 ⟨u308, _, rfl⟩ rfl rfl ?_
    refine xcst 30 (0) ⟨u308, _, rfl⟩ rfl (by decide) (fun z29 h29 => ?_)
    refine xist 31 ⟨u308, _, rfl⟩ rfl rfl ?_
    refine xpad 1 ?_
    refine l308k hH11 hT0 Q11 C11 l315 (fun w hw => hR w hp11 hH11 P11 G11 S11 ?_) (tdL V T 4 225).length 0 _ _ _ h29 (by omega) h27
    rw [hw]
    unfold agI
    by_cases g : agS T (tdL V T 4 225) (tdL V T 4 225).length = (tdL V T 4 225).length
    · rw [if_pos g, if_pos ⟨el, g⟩]
    · rw [if_neg g, if_neg (fun z => g z.2)]
  · refine xcst 26 (0) ⟨u308, _, rfl⟩ rfl (by decide) (fun z25 h25 => ?_)
    exact xretB ⟨u308, _, rfl⟩ rfl (by omega) (hR _ hp11 hH11 P11 G11 S11 (by unfold agI; rw [if_neg (fun z => by omega)]; exact h25))
end
