/-! ##### 19.m.093.40d ##### -/
section
/-! ===== the class gathers the cycles of two points ===== -/
section CP
variable {V : Nat} {T : sT} {a b : Nat}
theorem offs_le {L : List Nat} {q r : Nat} (h : q ≤ r) : offs T a b L q ≤ offs T a b L r := by
  obtain ⟨m, e⟩ := Nat.exists_eq_add_of_le h
  unfold offs
  rw [e, sm_split]
  exact Nat.le_add_right _ _
theorem offs_s {L : List Nat} {q : Nat} : offs T a b L (q + 1) = offs T a b L q + cyL T a b (L.getD q 0) := rfl
theorem offs_in {L : List Nat} {q k : Nat} (hq : q < L.length) (hk : k < cyL T a b (L.getD q 0)) : offs T a b L q + k < offs T a b L L.length := by
  have h : offs T a b L (q + 1) ≤ offs T a b L L.length := offs_le (by omega)
  rw [offs_s] at h
  omega
theorem offs_ap {L : List Nat} {x q : Nat} (hq : q ≤ L.length) : offs T a b (L ++ [x]) q = offs T a b L q := by
  unfold offs
  exact sm_ext q (fun i hi => by rw [gd_app (by omega)])
/-- the picture of the cycles that begin below a point -/
noncomputable def cyP (hp : amH) (T : sT) (a b n : Nat) : Prop := rN hp 52 0 = (((cyS T a b n).length : Nat) : Int) ∧ rN hp 52 1 = (a : Int) ∧ rN hp 52 2 = (b : Int) ∧ (∀ q, q ≤ (cyS T a b n).length → rN hp 53 q = ((offs T a b (cyS T a b n) q : Nat) : Int)) ∧ ∀ q, q < (cyS T a b n).length → ∀ k, k < cyL T a b ((cyS T a b n).getD q 0) → rN hp 54 (offs T a b (cyS T a b n) q + k) = ((rk T a b ((cyS T a b n).getD q 0) k : Nat) : Int) ∧ rJ hp 55 (offs T a b (cyS T a b n) q + k) = ((2 ^ li T (abS a b (pr2 false k)) (rk T a b ((cyS T a b n).getD q 0) k) : Nat) : Int)
theorem cyP_no {hp : amH} {x : Nat} (h : ¬ cyB T a b x = true) (P : cyP hp T a b x) : cyP hp T a b (x + 1) := by
  have e : cyS T a b (x + 1) = cyS T a b x := fL_skip h
  unfold cyP
  rw [e]
  exact P
theorem cyP_wk {hp hp1 : amH} {x : Nat} (F : bFx [54, 55] hp hp1) (h : ∀ i, i < offs T a b (cyS T a b x) (cyS T a b x).length → rN hp1 54 i = rN hp 54 i ∧ rJ hp1 55 i = rJ hp 55 i) (P : cyP hp T a b x) : cyP hp1 T a b x := by
  obtain ⟨p1, p2, p3, p4, p5⟩ := P
  refine ⟨(bFx_n F (by simp)).trans p1, (bFx_n F (by simp)).trans p2, (bFx_n F (by simp)).trans p3, fun q hq => (bFx_n F (by simp)).trans (p4 q hq), fun q hq k hk => ?_⟩
  obtain ⟨h1, h2⟩ := h _ (offs_in hq hk)
  rw [h1, h2]
  exact p5 q hq k hk
theorem cyP_yes {hp hp1 : amH} {x : Nat} (h : cyB T a b x = true) (P : cyP hp T a b x) (F : bFx [52, 53] hp hp1)
    (hw : ∀ k, k < cyL T a b x → rN hp 54 (offs T a b (cyS T a b x) (cyS T a b x).length + k) = ((rk T a b x k : Nat) : Int) ∧ rJ hp 55 (offs T a b (cyS T a b x) (cyS T a b x).length + k) = ((2 ^ li T (abS a b (pr2 false k)) (rk T a b x k) : Nat) : Int))
    (h0 : rN hp1 52 0 = (((cyS T a b x).length + 1 : Nat) : Int)) (h1 : rN hp1 52 1 = rN hp 52 1) (h2 : rN hp1 52 2 = rN hp 52 2) (h3 : rN hp1 53 ((cyS T a b x).length + 1) = ((offs T a b (cyS T a b x) (cyS T a b x).length + cyL T a b x : Nat) : Int)) (h4 : ∀ q, q ≤ (cyS T a b x).length → rN hp1 53 q = rN hp 53 q) : cyP hp1 T a b (x + 1) := by
  have e : cyS T a b (x + 1) = cyS T a b x ++ [x] := fL_add h
  obtain ⟨p1, p2, p3, p4, p5⟩ := P
  unfold cyP
  rw [e, List.length_append, List.length_singleton]
  refine ⟨h0, h1.trans p2, h2.trans p3, fun q hq => ?_, fun q hq k hk => ?_⟩
  · by_cases g : q = (cyS T a b x).length + 1
    · rw [g, h3, offs_s, offs_ap (Nat.le_refl _), gd_end]
    · rw [h4 q (by omega), offs_ap (by omega)]
      exact p4 q (by omega)
  · rw [bFx_n F (by simp), rJ_eq (F 55 _ (by simp))]
    by_cases g : q = (cyS T a b x).length
    · rw [g, gd_end] at hk
      rw [g, offs_ap (Nat.le_refl _), gd_end]
      exact hw k hk
    · rw [gd_app (by omega)] at hk
      rw [offs_ap (by omega), gd_app (by omega)]
      exact p5 q (by omega) k hk
theorem cyL_no {x : Nat} (h : cyL T a b x = 0) : ¬ cyB T a b x = true := fun z => by
  have z := of_decide_eq_true z
  have := z.2.2.2.1
  omega
theorem seen_0 {u : Nat} : seenC T a b 0 u ↔ (u = a ∨ u = b ∨ T a b = (u : Int)) := by
  constructor
  · rintro (h | h | h | ⟨y, y1, -⟩)
    · exact Or.inl h
    · exact Or.inr (Or.inl h)
    · exact Or.inr (Or.inr h)
    · exact absurd y1 (Nat.not_lt_zero y)
  · rintro (h | h | h)
    · exact Or.inl h
    · exact Or.inr (Or.inl h)
    · exact Or.inr (Or.inr (Or.inl h))
theorem rk_on {x u : Nat} (hT : sOk V T) (hp : 0 < cyL T a b x) : (∃ k, k < cyL T a b x ∧ rk T a b x k = u) ↔ onC T a b x u := by
  obtain ⟨c1, c2, c3, c4⟩ := cyL_s hT hp
  constructor
  · rintro ⟨k, k1, k2⟩
    obtain ⟨v, hv⟩ := wl_all c4 hp c2 k
    rw [rk_some hv] at k2
    exact ⟨k, k1, by rw [hv, k2]⟩
  · rintro ⟨k, k1, k2⟩
    exact ⟨k, k1, rk_some k2⟩
theorem rk_lt {x k : Nat} (hT : sOk V T) (hx : x < V) (hp : 0 < cyL T a b x) : rk T a b x k < V := by
  obtain ⟨c1, c2, c3, c4⟩ := cyL_s hT hp
  obtain ⟨v, hv⟩ := wl_all c4 hp c2 k
  rw [rk_some hv]
  exact wl_lt hT hx hv
end CP
theorem k_wkC {d V x a b B m : Nat} {T : sT} {hp : amH} {R : xQ} {w : Int32} (hH : bHk 84 bTT hp) (hB : bdOk hp 3 V T) (hL : lsN hp 3 T 225) (ha : rN hp 52 1 = (a : Int)) (hb : rN hp 52 2 = (b : Int)) (aV : a < V) (bV : b < V) (hab : ¬ a = b) (hx : w.toInt = (x : Int)) (xV' : x < V) (hm : rN hp 52 0 = (m : Int)) (hm4 : m < 4) (hmB : rN hp 53 m = (B : Int)) (hB13 : B ≤ 13)
    (hR : ∀ (z : Int32) hp1, bHk 84 bTT hp1 → bFx [54, 55] hp hp1 → (∀ i, i < B → rN hp1 54 i = rN hp 54 i ∧ rJ hp1 55 i = rJ hp 55 i) → z.toInt = ((cyL T a b x : Nat) : Int) → (0 < cyL T a b x → ∀ k, k < cyL T a b x → rN hp1 54 (B + k) = ((rk T a b x k : Nat) : Int) ∧ rJ hp1 55 (B + k) = ((2 ^ li T (abS a b (pr2 false k)) (rk T a b x k) : Nat) : Int)) → R (.inl (some (.int z))) hp1) : xK (d + 2) 37 [.ref 52, .ref 3, .int w] hp R := by
  refine xin (M := am_m37) rfl rfl rfl ?_
  refine xald 1 ⟨u37, _, rfl⟩ rfl rfl ?_
  refine xald 2 ⟨u37, _, rfl⟩ rfl rfl ?_
  refine xgetC 5 hH ⟨u37, _, rfl⟩ rfl (by decide) (by decide) rfl rfl (by decide) (fun z2 h2 => ?_)
  refine xcallC 8 (o := 52) [.int _] [] hH ⟨u37, _, rfl⟩ rfl rfl (by decide) rfl (by decide) rfl ⟨rfl, rfl, rfl, rfl⟩ rfl (k_bgn hH (n := m) (by omega) hm4 (fun z5 h5 => ⟨_, rfl, ?_⟩))
  refine xist 9 ⟨u37, _, rfl⟩ rfl rfl ?_
  refine xild 10 ⟨u37, _, rfl⟩ rfl rfl ?_
  refine xist2 12 ⟨u37, _, rfl⟩ rfl rfl ?_
  refine xcst 13 (0) ⟨u37, _, rfl⟩ rfl (by decide) (fun z12 h12 => ?_)
  refine xist2 15 ⟨u37, _, rfl⟩ rfl rfl ?_
  refine xpad 1 ?_
  exact l37 hB.2.1 hB hL ha hb aV bV hab hx xV' (h5.trans hmB) hB13 hR 15 0 x _ _ _ hp hx h12 (by omega) rfl rfl (fun j j1 j2 => by omega) hH bFx.refl (fun i _ => ⟨rfl, rfl⟩) (fun j hj => absurd hj (Nat.not_lt_zero j))
theorem l38 {d n B L : Nat} {hp : amH} {R : xQ} {f : Nat → Nat} {a : Int32} (hH : bHk 84 bTT hp) (ha : a.toInt = (L : Int)) (hn : rN hp 52 0 = ((n + 1 : Nat) : Int)) (hn3 : n < 3) (hB : rN hp 53 n = (B : Int)) (hBL : B + L ≤ 15) (hf : ∀ k, k < L → rN hp 54 (B + k) = ((f k : Nat) : Int) ∧ f k < 15)
    (hR : ∀ (z : Int32) (x : Nat), z.toInt = (x : Int) → x < 32768 → (∀ u, x.testBit u = true ↔ ∃ k, k < L ∧ f k = u) → R (.inl (some (.int z))) hp) :
    ∀ (jj k x : Nat) (w wk : Int32), wk.toInt = (k : Int) → k + jj = L → w.toInt = (x : Int) → x < 32768 → (∀ u, x.testBit u = true ↔ ∃ j, j < k ∧ f j = u) → xV (d + 2) am_m38 44 [some (.ref 52), some (.int a), some (.int w), some (.int wk)] [] hp R := by
  intro jj
  induction jj with
  | zero =>
    intro k x w wk hwk hj hw hx hm
    have ek : k = L := by omega
    rw [ek] at hm
    refine xild 45 ⟨u38, _, rfl⟩ rfl rfl ?_
    refine xild 46 ⟨u38, _, rfl⟩ rfl rfl ?_
    refine xcmp_ge 49 ⟨u38, _, rfl⟩ rfl (fun c46 => ?_) (fun c46 => ?_)
    · refine xild 72 ⟨u38, _, rfl⟩ rfl rfl ?_
      exact xret ⟨u38, _, rfl⟩ rfl (hR _ x hw hx hm)
    · omega
  | succ jj ih =>
    intro k x w wk hwk hj hw hx hm
    obtain ⟨f1, f2⟩ := hf k (by omega)
    refine xild 45 ⟨u38, _, rfl⟩ rfl rfl ?_
    refine xild 46 ⟨u38, _, rfl⟩ rfl rfl ?_
    refine xcmp_ge 49 ⟨u38, _, rfl⟩ rfl (fun c46 => ?_) (fun c46 => ?_)
    · omega
    · refine xild 50 ⟨u38, _, rfl⟩ rfl rfl ?_
      refine xcst 51 (1) ⟨u38, _, rfl⟩ rfl (by decide) (fun z50 h50 => ?_)
      refine xald 52 ⟨u38, _, rfl⟩ rfl rfl ?_
      refine xald 53 ⟨u38, _, rfl⟩ rfl rfl ?_
      refine xgetC 56 hH ⟨u38, _, rfl⟩ rfl (by decide) (by decide) rfl rfl (by decide) (fun z53 h53 => ?_)
      refine xcst 57 (1) ⟨u38, _, rfl⟩ rfl (by decide) (fun z56 h56 => ?_)
      refine xsub 58 _ ⟨u38, _, rfl⟩ rfl rfl (by omega) (by omega) (fun z57 h57 => ?_)
      refine xild 59 ⟨u38, _, rfl⟩ rfl rfl ?_
      refine xcallC 62 (o := 52) [.int _, .int _] [.int _, .int _] hH ⟨u38, _, rfl⟩ rfl rfl (by decide) rfl (by decide) rfl ⟨rfl, rfl, rfl, rfl⟩ rfl (k_ptC hH (n := n) (by omega) (by omega) hwk (by omega) (by omega) (fun z59 h59 => ⟨_, rfl, ?_⟩))
      rw [show (rN hp 53 n).toNat + k = B + k by omega, f1] at h59
      have s1 := i_shl h50 h59 f2
      have s2 := i_or hw s1.1 hx s1.2
      refine xshl 63 ⟨u38, _, rfl⟩ rfl ?_
      refine xor_ 64 ⟨u38, _, rfl⟩ rfl ?_
      refine xist 65 ⟨u38, _, rfl⟩ rfl rfl ?_
      refine xinc 68 (1) ⟨u38, _, rfl⟩ rfl rfl rfl (by decide) (by omega) (by omega) (fun z65 h65 => ?_)
      refine xgoto ⟨u38, _, rfl⟩ ?_
      exact ih (k + 1) (x ||| 2 ^ f k) (w ||| (z50 <<< (z59 &&& 31))) z65 (by omega) (by omega) s2.1 s2.2 (fun u => by
        rw [Nat.testBit_or, Nat.testBit_two_pow, Bool.or_eq_true, hm u, decide_eq_true_iff]
        constructor
        · rintro (⟨j, j1, j2⟩ | e)
          · exact ⟨j, by omega, j2⟩
          · exact ⟨k, by omega, e⟩
        · rintro ⟨j, j1, j2⟩
          by_cases q : j = k
          · rw [q] at j2; exact Or.inr j2
          · exact Or.inl ⟨j, by omega, j2⟩)
theorem k_kpC {d n B L : Nat} {hp : amH} {R : xQ} {f : Nat → Nat} {a : Int32} (hH : bHk 84 bTT hp) (ha : a.toInt = (L : Int)) (hn : rN hp 52 0 = (n : Int)) (hn3 : n < 3) (hB : rN hp 53 n = (B : Int)) (hBL : B + L ≤ 15) (hf : ∀ k, k < L → rN hp 54 (B + k) = ((f k : Nat) : Int) ∧ f k < 15)
    (hR : ∀ (z : Int32) hp1 (x : Nat), bHk 84 bTT hp1 → bFx [52, 53] hp hp1 → rN hp1 52 0 = ((n + 1 : Nat) : Int) → rN hp1 52 1 = rN hp 52 1 → rN hp1 52 2 = rN hp 52 2 → rN hp1 53 (n + 1) = ((B + L : Nat) : Int) → (∀ q, q ≤ n → rN hp1 53 q = rN hp 53 q) → z.toInt = (x : Int) → x < 32768 → (∀ u, x.testBit u = true ↔ ∃ k, k < L ∧ f k = u) → R (.inl (some (.int z))) hp1) : xK (d + 2) 38 [.ref 52, .int a] hp R := by
  refine xin (M := am_m38) rfl rfl rfl ?_
  refine xcst 1 (0) ⟨u38, _, rfl⟩ rfl (by decide) (fun z0 h0 => ?_)
  refine xist 2 ⟨u38, _, rfl⟩ rfl rfl ?_
  refine xald 3 ⟨u38, _, rfl⟩ rfl rfl ?_
  refine xgetC 6 hH ⟨u38, _, rfl⟩ rfl (by decide) (by decide) rfl rfl (by decide) (fun z3 h3 => ?_)
  refine xcst 7 (3) ⟨u38, _, rfl⟩ rfl (by decide) (fun z6 h6 => ?_)
  refine xcmp_ge 10 ⟨u38, _, rfl⟩ rfl (fun c7 => ?_) (fun c7 => ?_)
  · omega
  · refine xald 11 ⟨u38, _, rfl⟩ rfl rfl ?_
    refine xgetD 14 (53) hH ⟨u38, _, rfl⟩ rfl (by decide) (by decide) rfl rfl (by decide) ?_
    refine xald 15 ⟨u38, _, rfl⟩ rfl rfl ?_
    refine xgetC 18 hH ⟨u38, _, rfl⟩ rfl (by decide) (by decide) rfl rfl (by decide) (fun z15 h15 => ?_)
    refine xcst 19 (1) ⟨u38, _, rfl⟩ rfl (by decide) (fun z18 h18 => ?_)
    refine xadd 20 _ ⟨u38, _, rfl⟩ rfl rfl (by omega) (by omega) (fun z19 h19 => ?_)
    refine xald 21 ⟨u38, _, rfl⟩ rfl rfl ?_
    refine xgetD 24 (53) hH ⟨u38, _, rfl⟩ rfl (by decide) (by decide) rfl rfl (by decide) ?_
    refine xald 25 ⟨u38, _, rfl⟩ rfl rfl ?_
    refine xgetC 28 hH ⟨u38, _, rfl⟩ rfl (by decide) (by decide) rfl rfl (by decide) (fun z25 h25 => ?_)
    have i24 : z25.toInt.toNat = n := by omega
    refine xiald53 29 (z25).toInt.toNat hH ⟨u38, _, rfl⟩ rfl (by omega) (by omega) (fun z28 h28 => ?_)
    rw [i24, hB] at h28
    refine xild 30 ⟨u38, _, rfl⟩ rfl rfl ?_
    refine xadd 31 _ ⟨u38, _, rfl⟩ rfl rfl (by omega) (by omega) (fun z30 h30 => ?_)
    have i15 : z19.toInt.toNat = n + 1 := by omega
    refine xiast53 32 (z19).toInt.toNat hH ⟨u38, _, rfl⟩ rfl (by omega) (by omega) (by omega) (by omega) (by omega) (fun hp31 hH31 U31 => ?_)
    have s31 := U31.1
    rw [i15] at U31
    have s31 := U31.1
    have q31 : rN hp31 52 0 = (n : Int) := (rU_ne U31 (by first | decide | exact (fun z => absurd z.1 (by decide)) | omega)).trans hn
    refine xald 33 ⟨u38, _, rfl⟩ rfl rfl ?_
    refine xdup 34 ⟨u38, _, rfl⟩ rfl rfl ?_
    refine xgetC 37 hH31 ⟨u38, _, rfl⟩ rfl (by decide) (by decide) rfl rfl (by decide) (fun z34 h34 => ?_)
    refine xcst 38 (1) ⟨u38, _, rfl⟩ rfl (by decide) (fun z37 h37 => ?_)
    refine xadd 39 _ ⟨u38, _, rfl⟩ rfl rfl (by omega) (by omega) (fun z38 h38 => ?_)
    refine xputC 42 hH31 ⟨u38, _, rfl⟩ rfl (by decide) (by decide) rfl rfl (by decide) ⟨rfl, rfl⟩ (by omega) (by omega) (fun hp39 hH39 U39 => ?_)
    have s39 := U39.1
    have s39 := U39.1
    have F39 : bFx [52, 53] hp hp39 := (bFx_U U31 (by simp)).trans (bFx_U U39 (by simp))
    have a0 : rN hp39 52 0 = ((n + 1 : Nat) : Int) := by omega
    have a1 : rN hp39 52 1 = rN hp 52 1 := (rU_ne U39 (by first | decide | exact (fun z => absurd z.1 (by decide)) | omega)).trans (rU_ne U31 (by first | decide | exact (fun z => absurd z.1 (by decide)) | omega))
    have a2 : rN hp39 52 2 = rN hp 52 2 := (rU_ne U39 (by first | decide | exact (fun z => absurd z.1 (by decide)) | omega)).trans (rU_ne U31 (by first | decide | exact (fun z => absurd z.1 (by decide)) | omega))
    have a3 : rN hp39 53 (n + 1) = ((B + L : Nat) : Int) := (rU_ne U39 (by first | decide | exact (fun z => absurd z.1 (by decide)) | omega)).trans (by omega)
    have a4 : ∀ q, q ≤ n → rN hp39 53 q = rN hp 53 q := fun q hq => (rU_ne U39 (by first | decide | exact (fun z => absurd z.1 (by decide)) | omega)).trans (rU_ne U31 (by first | decide | exact (fun z => absurd z.1 (by decide)) | omega))
    refine xcst 43 (0) ⟨u38, _, rfl⟩ rfl (by decide) (fun z42 h42 => ?_)
    refine xist 44 ⟨u38, _, rfl⟩ rfl rfl ?_
    exact l38 hH39 ha a0 hn3 ((a4 n (Nat.le_refl _)).trans hB) hBL (fun k hk => ⟨(bFx_n F39 (by simp)).trans (hf k hk).1, (hf k hk).2⟩) (fun z x k1 k2 k3 => hR z hp39 x hH39 F39 a0 a1 a2 a3 a4 k1 k2 k3) L 0 0 _ _ h42 (by omega) h0 (by omega) (fun u => by
      rw [Nat.zero_testBit]
      exact ⟨fun z => (by cases z), fun ⟨j, j1, _⟩ => absurd j1 (Nat.not_lt_zero j)⟩)
theorem l36 {d V a b : Nat} {T : sT} {hp0 : amH} {R : xQ} {wa wb w4 : Int32} (hB0 : bdOk hp0 3 V T) (hL0 : lsN hp0 3 T 225) (aV : a < V) (bV : b < V) (hab : ¬ a = b)
    (hR : ∀ hp1, bHk 84 bTT hp1 → bFx [52, 53, 54, 55] hp0 hp1 → cyP hp1 T a b V → R (.inl none) hp1) :
    ∀ (jj x s : Nat) (w wx : Int32) (v7 : Option Value) (hp : amH), wx.toInt = (x : Int) → x + jj = V → w.toInt = (s : Int) → s < 32768 → (∀ u, s.testBit u = true ↔ seenC T a b x u) → bHk 84 bTT hp → bFx [52, 53, 54, 55] hp0 hp → cyP hp T a b x → xV (d + 3) am_m36 50 [some (.ref 52), some (.ref 3), some (.int wa), some (.int wb), some (.int w4), some (.int w), some (.int wx), v7] [] hp R := by
  have hT : sOk V T := hB0.2.1
  have hV := hT.2.1
  have v30 := hB0.1
  intro jj
  induction jj with
  | zero =>
    intro x s w wx v7 hp hwx hj hw hs hm hH hF hP
    have ex : x = V := by omega
    rw [ex] at hP
    have q0 : rN hp 3 0 = rN hp0 3 0 := bFx_n hF (by simp)
    refine xild2 52 ⟨u36, _, rfl⟩ rfl rfl ?_
    refine xald 53 ⟨u36, _, rfl⟩ rfl rfl ?_
    refine xgetC 56 hH ⟨u36, _, rfl⟩ rfl (by decide) (by decide) rfl rfl (by decide) (fun z53 h53 => ?_)
    refine xcmp_ge 59 ⟨u36, _, rfl⟩ rfl (fun c56 => ?_) (fun c56 => ?_)
    · exact xretV ⟨u36, _, rfl⟩ rfl (hR _ hH hF hP)
    · omega
  | succ jj ih =>
    intro x s w wx v7 hp hwx hj hw hs hm hH hF hP
    have hx : x < V := by omega
    have q0 : rN hp 3 0 = rN hp0 3 0 := bFx_n hF (by simp)
    have hB : bdOk hp 3 V T := bdOk_fr hB0 (bFx_n hF (by simp)) (fun _ => bFx_n hF (by simp)) (fun _ => bFx_n hF (by simp))
    have hL : lsN hp 3 T 225 := lsN_fr hL0 (bFx_n hF (by simp)) (fun _ => bFx_n hF (by simp)) (fun _ => bFx_n hF (by simp))
    obtain ⟨y1, y2, y3⟩ := cy_15 (n := x) hT aV bV hab (by omega)
    obtain ⟨p1, p2, p3, p4, p5⟩ := id hP
    have p6 := p4 _ (Nat.le_refl _)
    have no : ¬ cyB T a b x = true → ∀ u, s.testBit u = true ↔ seenC T a b (x + 1) u := fun h u => by
      rw [hm u, seen_succ]
      exact ⟨Or.inl, fun z => z.elim id (fun z => absurd z.1 h)⟩
    refine xild2 52 ⟨u36, _, rfl⟩ rfl rfl ?_
    refine xald 53 ⟨u36, _, rfl⟩ rfl rfl ?_
    refine xgetC 56 hH ⟨u36, _, rfl⟩ rfl (by decide) (by decide) rfl rfl (by decide) (fun z53 h53 => ?_)
    refine xcmp_ge 59 ⟨u36, _, rfl⟩ rfl (fun c56 => ?_) (fun c56 => ?_)
    · omega
    · refine xild2 61 ⟨u36, _, rfl⟩ rfl rfl ?_
      refine xild2 63 ⟨u36, _, rfl⟩ rfl rfl ?_
      refine xcallS 66 [.int _, .int _] [] hH ⟨u36, _, rfl⟩ rfl rfl rfl rfl rfl (k_has hw hs hwx (by omega) (fun z63 h63 => ⟨_, rfl, ?_⟩))
      refine xif_ne 69 ⟨u36, _, rfl⟩ rfl (fun c66 => ?_) (fun c66 => ?_)
      · have hb : s.testBit x = true := by
          cases e : s.testBit x
          · rw [e, if_neg (by simp)] at h63; omega
          · rfl
        have hyn : ¬ cyB T a b x = true := seen_no hT ((hm x).mp hb)
        refine xinc 97 (1) ⟨u36, _, rfl⟩ rfl rfl rfl (by decide) (by omega) (by omega) (fun z94 h94 => ?_)
        refine xgoto ⟨u36, _, rfl⟩ ?_
        exact ih (x + 1) s _ z94 _ hp (by omega) (by omega) hw hs (no hyn) hH hF (cyP_no hyn hP)
      · have hb : ¬ s.testBit x = true := fun e => by rw [if_pos e] at h63; omega
        refine xald 70 ⟨u36, _, rfl⟩ rfl rfl ?_
        refine xald 71 ⟨u36, _, rfl⟩ rfl rfl ?_
        refine xild2 73 ⟨u36, _, rfl⟩ rfl rfl ?_
        refine xcallC 76 (o := 52) [.ref 3, .int _] [] hH ⟨u36, _, rfl⟩ rfl rfl (by decide) rfl (by decide) rfl ⟨rfl, rfl, rfl, rfl⟩ rfl (k_wkC (x := x) hH hB hL p2 p3 aV bV hab hwx hx p1 (by omega) p6 (by omega) (fun z73 hp73 hH73 F73 l73 h73 r73 => ⟨_, rfl, ?_⟩))
        have P73 := cyP_wk F73 l73 hP
        have F73c : bFx [52, 53, 54, 55] hp0 hp73 := hF.trans (F73.mono (by simp))
        refine xist2 78 ⟨u36, _, rfl⟩ rfl rfl ?_
        refine xild2 80 ⟨u36, _, rfl⟩ rfl rfl ?_
        refine xif_le 83 ⟨u36, _, rfl⟩ rfl (fun c80 => ?_) (fun c80 => ?_)
        · have hyn : ¬ cyB T a b x = true := cyL_no (by omega)
          refine xinc 97 (1) ⟨u36, _, rfl⟩ rfl rfl rfl (by decide) (by omega) (by omega) (fun z94 h94 => ?_)
          refine xgoto ⟨u36, _, rfl⟩ ?_
          exact ih (x + 1) s _ z94 _ hp73 (by omega) (by omega) hw hs (no hyn) hH73 F73c (cyP_no hyn P73)
        · have hp0c : 0 < cyL T a b x := by omega
          have hyb : cyB T a b x = true := seen_yes hT (fun z => hb ((hm x).mpr z)) hp0c
          obtain ⟨y4, y5, -⟩ := cy_15 (n := x + 1) hT aV bV hab (by omega)
          rw [show cyS T a b (x + 1) = cyS T a b x ++ [x] from fL_add hyb, List.length_append, List.length_singleton, offs_s, offs_ap (Nat.le_refl _), gd_end] at y4 y5
          refine xild2 85 ⟨u36, _, rfl⟩ rfl rfl ?_
          refine xald 86 ⟨u36, _, rfl⟩ rfl rfl ?_
          refine xild2 88 ⟨u36, _, rfl⟩ rfl rfl ?_
          refine xcallC 91 (o := 52) [.int _] [.int _] hH73 ⟨u36, _, rfl⟩ rfl rfl (by decide) rfl (by decide) rfl ⟨rfl, rfl, rfl, rfl⟩ rfl (k_kpC (n := (cyS T a b x).length) (B := offs T a b (cyS T a b x) (cyS T a b x).length) (f := fun k => rk T a b x k) hH73 h73 P73.1 (by omega) (P73.2.2.2.1 _ (Nat.le_refl _)) (by omega) (fun k hk => ⟨(r73 hp0c k hk).1, by have := rk_lt (k := k) hT hx hp0c; omega⟩) (fun z88 hp88 x88 hH88 F88 a88 b88 c88 d88 e88 h88 l88 t88 => ⟨_, rfl, ?_⟩))
          have P88 := cyP_yes hyb P73 F88 (r73 hp0c) a88 b88 c88 d88 e88
          have s88 := i_or hw h88 hs l88
          refine xor_ 92 ⟨u36, _, rfl⟩ rfl ?_
          generalize h91 : (w ||| z88) = z91
          refine xist2 94 ⟨u36, _, rfl⟩ rfl rfl ?_
          refine xinc 97 (1) ⟨u36, _, rfl⟩ rfl rfl rfl (by decide) (by omega) (by omega) (fun z94 h94 => ?_)
          refine xgoto ⟨u36, _, rfl⟩ ?_
          exact ih (x + 1) (s ||| x88) z91 z94 _ hp88 (by omega) (by omega) (by rw [← h91]; exact s88.1) s88.2 (fun u => by
            rw [Nat.testBit_or, Bool.or_eq_true, hm u, t88 u, rk_on hT hp0c, seen_succ]
            exact ⟨fun z => z.elim Or.inl (fun z => Or.inr ⟨hyb, z⟩), fun z => z.elim Or.inl (fun z => Or.inr z.2)⟩) hH88 (F73c.trans (F88.mono (by simp))) P88
theorem z53 {hp : amH} (hH : bHk 84 bTT hp) : rN hp 53 0 = 0 := by
  obtain ⟨⟨t1, vs⟩, g1, g2, g3, g4⟩ := bHk_at hH (i := 53) (by decide) T53
  have g3 : vs.length = 4 := g3
  have hl2 : 0 < vs.length := by omega
  obtain ⟨y, k1, k2⟩ := g4 0 vs[0] (List.getElem?_eq_getElem hl2)
  have k1 : some (Sum.inl (2147483648, 2147483648)) = some y := k1
  cases k1
  obtain ⟨w, ex, l1, l2⟩ := k2
  have ho := aOff_eq w
  have e : rN hp 53 0 = w.toInt := by
    unfold rN bFld
    rw [g1]
    dsimp only
    rw [List.getElem?_eq_getElem hl2, ex]
  rw [e]
  omega
theorem k_gaC {d V a b : Nat} {T : sT} {hp : amH} {R : xQ} {wa wb : Int32} (hH : bHk 84 bTT hp) (hB : bdOk hp 3 V T) (hL : lsN hp 3 T 225) (ha : wa.toInt = (a : Int)) (hb : wb.toInt = (b : Int)) (aV : a < V) (bV : b < V) (hab : ¬ a = b)
    (hR : ∀ hp1, bHk 84 bTT hp1 → bFx [52, 53, 54, 55] hp hp1 → cyP hp1 T a b V → R (.inl none) hp1) : xK (d + 3) 36 [.ref 52, .ref 3, .int wa, .int wb] hp R := by
  have hT : sOk V T := hB.2.1
  have hV := hT.2.1
  refine xin (M := am_m36) rfl rfl rfl ?_
  refine xald 1 ⟨u36, _, rfl⟩ rfl rfl ?_
  refine xcst 2 (0) ⟨u36, _, rfl⟩ rfl (by decide) (fun z1 h1 => ?_)
  refine xputC 5 hH ⟨u36, _, rfl⟩ rfl (by decide) (by decide) rfl rfl (by decide) ⟨rfl, rfl⟩ (by omega) (by omega) (fun hp2 hH2 U2 => ?_)
  have s2 := U2.1
  refine xald 6 ⟨u36, _, rfl⟩ rfl rfl ?_
  refine xild 7 ⟨u36, _, rfl⟩ rfl rfl ?_
  refine xputC 10 hH2 ⟨u36, _, rfl⟩ rfl (by decide) (by decide) rfl rfl (by decide) ⟨rfl, rfl⟩ (by omega) (by omega) (fun hp7 hH7 U7 => ?_)
  have s7 := U7.1
  refine xald 11 ⟨u36, _, rfl⟩ rfl rfl ?_
  refine xild 12 ⟨u36, _, rfl⟩ rfl rfl ?_
  refine xputC 15 hH7 ⟨u36, _, rfl⟩ rfl (by decide) (by decide) rfl rfl (by decide) ⟨rfl, rfl⟩ (by omega) (by omega) (fun hp12 hH12 U12 => ?_)
  have s12 := U12.1
  have F12 : bFx [52, 53, 54, 55] hp hp12 := ((bFx_U U2 (by simp)).trans (bFx_U U7 (by simp))).trans (bFx_U U12 (by simp))
  have B12 : bdOk hp12 3 V T := bdOk_fr hB (bFx_n F12 (by simp)) (fun _ => bFx_n F12 (by simp)) (fun _ => bFx_n F12 (by simp))
  have L12 : lsN hp12 3 T 225 := lsN_fr hL (bFx_n F12 (by simp)) (fun _ => bFx_n F12 (by simp)) (fun _ => bFx_n F12 (by simp))
  have P12 : cyP hp12 T a b 0 := ⟨by rw [rU_ne U12 (by first | decide | exact (fun z => absurd z.1 (by decide)) | omega), rU_ne U7 (by first | decide | exact (fun z => absurd z.1 (by decide)) | omega), U2.1]; exact h1, by rw [rU_ne U12 (by first | decide | exact (fun z => absurd z.1 (by decide)) | omega), U7.1]; exact ha, by rw [U12.1]; exact hb, fun q hq => by
    have hq : q ≤ 0 := hq
    have : q = 0 := by omega
    rw [this]
    exact z53 hH12, fun q hq => absurd hq (Nat.not_lt_zero q)⟩
  refine xald 16 ⟨u36, _, rfl⟩ rfl rfl ?_
  refine xild 17 ⟨u36, _, rfl⟩ rfl rfl ?_
  refine xild 18 ⟨u36, _, rfl⟩ rfl rfl ?_
  refine xcallC 21 (o := 3) [.int _, .int _] [] hH12 ⟨u36, _, rfl⟩ rfl rfl (by decide) rfl (by decide) rfl ⟨rfl, rfl, rfl, rfl⟩ rfl (k_thd (o := 3) (Or.inl rfl) hH12 B12 (fun z18 h18 => ⟨_, rfl, ?_⟩))
  rw [if_pos (by omega), show wa.toInt.toNat = a by omega, show wb.toInt.toNat = b by omega] at h18
  refine xist2 23 ⟨u36, _, rfl⟩ rfl rfl ?_
  refine xcst 24 (1) ⟨u36, _, rfl⟩ rfl (by decide) (fun z23 h23 => ?_)
  refine xild 25 ⟨u36, _, rfl⟩ rfl rfl ?_
  refine xshl 26 ⟨u36, _, rfl⟩ rfl ?_
  have s25 := i_shl h23 ha (by omega)
  refine xcst 27 (1) ⟨u36, _, rfl⟩ rfl (by decide) (fun z26 h26 => ?_)
  refine xild 28 ⟨u36, _, rfl⟩ rfl rfl ?_
  refine xshl 29 ⟨u36, _, rfl⟩ rfl ?_
  refine xor_ 30 ⟨u36, _, rfl⟩ rfl ?_
  have s28 := i_shl h26 hb (by omega)
  have s29 := i_or s25.1 s28.1 s25.2 s28.2
  refine xild2 32 ⟨u36, _, rfl⟩ rfl rfl ?_
  refine xcst 33 (-1) ⟨u36, _, rfl⟩ rfl (by decide) (fun z32 h32 => ?_)
  refine xcmp_ne 36 ⟨u36, _, rfl⟩ rfl (fun c33 => ?_) (fun c33 => ?_)
  · refine xcst 41 (1) ⟨u36, _, rfl⟩ rfl (by decide) (fun z40 h40 => ?_)
    refine xild2 43 ⟨u36, _, rfl⟩ rfl rfl ?_
    refine xshl 44 ⟨u36, _, rfl⟩ rfl ?_
    refine xor_ 45 ⟨u36, _, rfl⟩ rfl ?_
    refine xist2 47 ⟨u36, _, rfl⟩ rfl rfl ?_
    refine xcst 48 (0) ⟨u36, _, rfl⟩ rfl (by decide) (fun z47 h47 => ?_)
    refine xist2 50 ⟨u36, _, rfl⟩ rfl rfl ?_
    obtain ⟨c, ec, -, -, lc, -⟩ := sOk_at hT (a := a) (b := b) rfl (by omega)
    have s43 := i_shl h40 (h18.trans ec) (by omega)
    have so := i_or s29.1 s43.1 s29.2 s43.2
    refine xpad 1 ?_
    exact l36 B12 L12 aV bV hab (fun hp1 k1 k2 k3 => hR hp1 k1 (F12.trans k2) k3) V 0 _ _ _ _ hp12 h47 (by omega) so.1 so.2 (fun u => by
      rw [seen_0, Nat.testBit_or, Nat.testBit_or, Nat.testBit_two_pow, Nat.testBit_two_pow, Nat.testBit_two_pow, Bool.or_eq_true, Bool.or_eq_true, decide_eq_true_iff, decide_eq_true_iff, decide_eq_true_iff, ec]
      constructor
      · rintro ((z | z) | z)
        · exact Or.inl z.symm
        · exact Or.inr (Or.inl z.symm)
        · exact Or.inr (Or.inr (by omega))
      · rintro (z | z | z)
        · exact Or.inl (Or.inl z.symm)
        · exact Or.inl (Or.inr z.symm)
        · exact Or.inr (by omega)) hH12 bFx.refl P12
  · refine xcst 37 (0) ⟨u36, _, rfl⟩ rfl (by decide) (fun z36 h36 => ?_)
    refine xgoto ⟨u36, _, rfl⟩ ?_
    refine xor_ 45 ⟨u36, _, rfl⟩ rfl ?_
    refine xist2 47 ⟨u36, _, rfl⟩ rfl rfl ?_
    refine xcst 48 (0) ⟨u36, _, rfl⟩ rfl (by decide) (fun z47 h47 => ?_)
    refine xist2 50 ⟨u36, _, rfl⟩ rfl rfl ?_
    have so := i_or (b := 0) s29.1 h36 s29.2 (by omega)
    refine xpad 1 ?_
    exact l36 B12 L12 aV bV hab (fun hp1 k1 k2 k3 => hR hp1 k1 (F12.trans k2) k3) V 0 _ _ _ _ hp12 h47 (by omega) so.1 so.2 (fun u => by
      rw [seen_0, Nat.testBit_or, Nat.testBit_or, Nat.testBit_two_pow, Nat.testBit_two_pow, Nat.zero_testBit, Bool.or_eq_true, Bool.or_eq_true, decide_eq_true_iff, decide_eq_true_iff]
      constructor
      · rintro ((z | z) | z)
        · exact Or.inl z.symm
        · exact Or.inr (Or.inl z.symm)
        · cases z
      · rintro (z | z | z)
        · exact Or.inl (Or.inl z.symm)
        · exact Or.inl (Or.inr z.symm)
        · omega) hH12 bFx.refl P12
end
/-! ##### 19.m.094.40e ##### -/
section
/-! ===== what a switch along a cycle takes and lays (pure) ===== -/
theorem prw_pw : ∀ {L : List Nat}, L.Pairwise sh1 → prw L
  | [], _ => trivial
  | a :: r, h => by
    obtain ⟨h1, h2⟩ := List.pairwise_cons.mp h
    exact ⟨h1, prw_pw h2⟩
theorem prw_rg {f : Nat → Nat} {c : Nat} (h : ∀ j k, j < k → k < c → sh1 (f j) (f k)) : prw ((List.range c).map f) := prw_pw (by
  rw [List.pairwise_map]
  exact List.Pairwise.imp_of_mem (fun {j k} hj hk hlt => h j k hlt (List.mem_range.mp hk)) List.pairwise_lt_range)
section CM
variable {V : Nat} {T : sT} {a b : Nat}
theorem sAx (k : Nat) : abS a b (pr2 false k) = if k % 2 = 1 then b else a := by
  rw [pr2_mod]
  unfold abS
  by_cases h : k % 2 = 1
  · rw [if_pos h, decide_eq_true h, if_pos rfl]
  · rw [if_neg h, decide_eq_false h, if_neg (by simp)]
theorem sBx (k : Nat) : abS a b (!pr2 false k) = if k % 2 = 1 then a else b := by
  rw [pr2_mod]
  unfold abS
  by_cases h : k % 2 = 1
  · rw [if_pos h, decide_eq_true h, if_neg (by simp)]
  · rw [if_neg h, decide_eq_false h, if_pos (by simp)]
noncomputable def mA (T : sT) (a b x k : Nat) : Nat := m3 (abS a b (pr2 false k)) (rk T a b x k) (rk T a b x (k + 1))
noncomputable def mB (T : sT) (a b x k : Nat) : Nat := m3 (abS a b (!pr2 false k)) (rk T a b x k) (rk T a b x (k + 1))
noncomputable def cyT (T : sT) (a b x c : Nat) : List Nat := (List.range c).map (fun k => li T (abS a b (pr2 false k)) (rk T a b x k))
noncomputable def cyA (T : sT) (a b x c : Nat) : List Nat := (List.range c).map (mA T a b x)
noncomputable def cyC (T : sT) (a b x c : Nat) : List Nat := (List.range c).map (mB T a b x)
/-- what a state becomes by a switch along the cycle of x -/
noncomputable def swC (T : sT) (a b x : Nat) : sT := uPs (uTs T (cyA T a b x (cyL T a b x))) (cyC T a b x (cyL T a b x))
abbrev offP (T : sT) (a b x : Nat) : Prop := ¬ x = a ∧ ¬ x = b ∧ ¬ T a b = (x : Int)
theorem cy_f {x : Nat} (hT : sOk V T) (hx : x < V) (ho : offP T a b x) (hp : 0 < cyL T a b x) (k : Nat) : (¬ rk T a b x k = a ∧ ¬ rk T a b x k = b) ∧ rk T a b x k < V ∧ T (abS a b (pr2 false k)) (rk T a b x k) = ((rk T a b x (k + 1) : Nat) : Int) := by
  obtain ⟨c1, c2, c3, c4⟩ := cyL_s hT hp
  obtain ⟨v, hv⟩ := wl_all c4 hp c2 k
  obtain ⟨w, hw⟩ := wl_all c4 hp c2 (k + 1)
  have n := wl_next hv
  rw [hw] at n
  rw [rk_some hv, rk_some hw]
  have of := wl_offs hT k false x v ho hv
  refine ⟨⟨of.1, of.2.1⟩, wl_lt hT hx hv, ?_⟩
  by_cases e : T (abS a b (pr2 false k)) v = -1
  · rw [if_pos e] at n; cases n
  · rw [if_neg e] at n
    obtain ⟨z, ez, -⟩ := sOk_at hT (rfl : T (abS a b (pr2 false k)) v = _) e
    have := Option.some.inj n
    rw [ez, Int.toNat_natCast] at this
    rw [ez, this]
theorem cy_c {x : Nat} (hT : sOk V T) (hp : 0 < cyL T a b x) : rk T a b x (cyL T a b x) = x := rk_some (cyL_s hT hp).2.1
theorem cy_inj {x i j : Nat} (hT : sOk V T) (hp : 0 < cyL T a b x) (hi : i < cyL T a b x) (hj : j < cyL T a b x) (e : rk T a b x i = rk T a b x j) : i = j := by
  obtain ⟨c1, c2, c3, c4⟩ := cyL_s hT hp
  obtain ⟨v, hv⟩ := wl_all c4 hp c2 i
  obtain ⟨w, hw⟩ := wl_all c4 hp c2 j
  rw [rk_some hv, rk_some hw] at e
  rcases Nat.lt_trichotomy i j with g | g | g
  · exact absurd (by rw [hv, hw, e]) (wl_dif hT hp g hj)
  · exact g
  · exact absurd (by rw [hv, hw, e]) (wl_dif hT hp g hi)
theorem cy_li {x : Nat} (hT : sOk V T) (hx : x < V) (ho : offP T a b x) (hp : 0 < cyL T a b x) (k : Nat) : li T (abS a b (pr2 false k)) (rk T a b x k) < (trL T 225).length ∧ mN T (li T (abS a b (pr2 false k)) (rk T a b x k)) = mA T a b x k := by
  obtain ⟨f1, f2, f3⟩ := cy_f hT hx ho hp k
  obtain ⟨w, e1, e2, -, -, -, -, -, -, l, m, -⟩ := li_s hT (u := abS a b (pr2 false k)) (v := rk T a b x k) (by omega)
  refine ⟨l, ?_⟩
  have : w = rk T a b x (k + 1) := by omega
  rw [m, this]
  rfl
theorem cyA_m {x : Nat} (hT : sOk V T) (hx : x < V) (ho : offP T a b x) (hp : 0 < cyL T a b x) (c : Nat) : (cyT T a b x c).map (mN T) = cyA T a b x c := by
  unfold cyT cyA
  rw [List.map_map]
  exact List.map_congr_left (fun k _ => (cy_li hT hx ho hp k).2)
theorem cy_dj {x j k : Nat} (hT : sOk V T) (hab : ¬ a = b) (hx : x < V) (ho : offP T a b x) (hp : 0 < cyL T a b x) (hj : j < cyL T a b x) (hk : k < cyL T a b x) (hne : ¬ j = k) : sh1 (mA T a b x j) (mA T a b x k) := by
  obtain ⟨lj, ej⟩ := cy_li hT hx ho hp j
  obtain ⟨lk, ek⟩ := cy_li hT hx ho hp k
  obtain ⟨-, -, -, c4⟩ := cyL_s hT hp
  have cc := cy_c hT hp
  rw [← ej, ← ek]
  refine sh_m hT lj lk (fun e => hne ?_)
  have em : mA T a b x j = mA T a b x k := by rw [← ej, ← ek, e]
  have tb : ∀ u, (u = abS a b (pr2 false j) ∨ u = rk T a b x j ∨ u = rk T a b x (j + 1)) ↔ (u = abS a b (pr2 false k) ∨ u = rk T a b x k ∨ u = rk T a b x (k + 1)) := fun u => by
    have h := congrArg (fun z => z.testBit u) em
    unfold mA at h
    simp only [m3_test, decide_eq_decide] at h
    exact h
  have oj := (cy_f hT hx ho hp j).1
  have ok1 := (cy_f hT hx ho hp (k + 1)).1
  have ok := (cy_f hT hx ho hp k).1
  have t1 := (tb (rk T a b x j)).mp (Or.inr (Or.inl rfl))
  have t2 := (tb (abS a b (pr2 false j))).mp (Or.inl rfl)
  rw [sAx, sAx] at t2
  rw [sAx] at t1
  have nk : ¬ rk T a b x j = (if k % 2 = 1 then b else a) := by split <;> omega
  have hs : (if j % 2 = 1 then b else a) = (if k % 2 = 1 then b else a) := by
    rcases t2 with t | t | t
    · exact t
    · exfalso; revert t; split <;> omega
    · exfalso; revert t; split <;> omega
  have par : j % 2 = k % 2 := by
    by_cases g1 : j % 2 = 1 <;> by_cases g2 : k % 2 = 1
    · omega
    · rw [if_pos g1, if_neg g2] at hs; omega
    · rw [if_neg g1, if_pos g2] at hs; omega
    · omega
  rcases t1 with t | t | t
  · exact absurd t nk
  · exact cy_inj hT hp hj hk t
  · exfalso
    by_cases g : k + 1 < cyL T a b x
    · have := cy_inj hT hp hj g t
      omega
    · have g2 : k + 1 = cyL T a b x := by omega
      rw [g2, cc] at t
      have := cy_inj hT hp hj hp (t.trans rfl : rk T a b x j = rk T a b x 0)
      omega
/-- a and b exchanged -/
noncomputable def sw2 (a b u : Nat) : Nat := if u = a then b else if u = b then a else u
theorem sw_in {s : Bool} {p q u v : Nat} (hab : ¬ a = b) (hp : ¬ p = a ∧ ¬ p = b) (hq : ¬ q = a ∧ ¬ q = b) (h : sPr (abS a b (!s)) p q u v) : sPr (abS a b s) p q (sw2 a b u) (sw2 a b v) := by
  have mem : ∀ w, (w = abS a b (!s) ∨ w = p ∨ w = q) → (sw2 a b w = abS a b s ∨ sw2 a b w = p ∨ sw2 a b w = q) := fun w hw => by
    rcases hw with e | e | e
    · refine Or.inl ?_
      rw [e]
      cases s
      · show (if b = a then b else if b = b then a else b) = a
        rw [if_neg (fun z => hab z.symm), if_pos rfl]
      · show (if a = a then b else if a = b then a else a) = b
        rw [if_pos rfl]
    · refine Or.inr (Or.inl ?_)
      rw [e]
      unfold sw2
      rw [if_neg hp.1, if_neg hp.2]
    · refine Or.inr (Or.inr ?_)
      rw [e]
      unfold sw2
      rw [if_neg hq.1, if_neg hq.2]
  obtain ⟨h0, h1, h2⟩ := h
  refine ⟨fun e => h0 ?_, mem u h1, mem v h2⟩
  unfold sw2 at e
  by_cases g1 : u = a <;> by_cases g2 : v = a
  · omega
  · rw [if_pos g1, if_neg g2] at e
    by_cases g3 : v = b
    · rw [if_pos g3] at e; omega
    · rw [if_neg g3] at e; omega
  · rw [if_neg g1, if_pos g2] at e
    by_cases g3 : u = b
    · rw [if_pos g3] at e; omega
    · rw [if_neg g3] at e; omega
  · rw [if_neg g1, if_neg g2] at e
    by_cases g3 : u = b <;> by_cases g4 : v = b
    · omega
    · rw [if_pos g3, if_neg g4] at e; omega
    · rw [if_neg g3, if_pos g4] at e; omega
    · rw [if_neg g3, if_neg g4] at e; exact e
theorem cyB_dj {x j k : Nat} (hT : sOk V T) (hab : ¬ a = b) (hx : x < V) (ho : offP T a b x) (hp : 0 < cyL T a b x) (hj : j < cyL T a b x) (hk : k < cyL T a b x) (hne : ¬ j = k) : sh1 (mB T a b x j) (mB T a b x k) := fun u v h1 h2 => by
  have g1 := sw_in hab (cy_f hT hx ho hp j).1 (cy_f hT hx ho hp (j + 1)).1 (in2_3.mp h1)
  have g2 := sw_in hab (cy_f hT hx ho hp k).1 (cy_f hT hx ho hp (k + 1)).1 (in2_3.mp h2)
  exact cy_dj hT hab hx ho hp hj hk hne _ _ (in2_3.mpr g1) (in2_3.mpr g2)
/-- the pairs of what is laid were the pairs of what is taken -/
theorem cy_fr {x k u v : Nat} (hT : sOk V T) (hx : x < V) (ho : offP T a b x) (hp : 0 < cyL T a b x) (hk : k < cyL T a b x) (h : sPr (abS a b (!pr2 false k)) (rk T a b x k) (rk T a b x (k + 1)) u v) : ∃ j, j < cyL T a b x ∧ in2 (mA T a b x j) u v := by
  obtain ⟨-, -, -, c4⟩ := cyL_s hT hp
  have cc := cy_c hT hp
  have mk : ∀ j, j < cyL T a b x → ∀ p q, ¬ p = q → (p = abS a b (pr2 false j) ∨ p = rk T a b x j ∨ p = rk T a b x (j + 1)) → (q = abS a b (pr2 false j) ∨ q = rk T a b x j ∨ q = rk T a b x (j + 1)) → ∃ j, j < cyL T a b x ∧ in2 (mA T a b x j) p q := fun j hj p q g0 g1 g2 => ⟨j, hj, in2_3.mpr ⟨g0, g1, g2⟩⟩
  have o1 : ∃ j, j < cyL T a b x ∧ abS a b (!pr2 false k) = abS a b (pr2 false j) ∧ (rk T a b x k = rk T a b x j ∨ rk T a b x k = rk T a b x (j + 1)) := by
    by_cases g : k = 0
    · refine ⟨cyL T a b x - 1, by omega, ?_, Or.inr ?_⟩
      · rw [sBx, sAx, if_neg (by omega), if_pos (by omega)]
      · rw [show cyL T a b x - 1 + 1 = cyL T a b x by omega, cc, g]
        rfl
    · refine ⟨k - 1, by omega, ?_, Or.inr ?_⟩
      · rw [sBx, sAx]
        by_cases g2 : k % 2 = 1
        · rw [if_pos g2, if_neg (by omega)]
        · rw [if_neg g2, if_pos (by omega)]
      · rw [show k - 1 + 1 = k by omega]
  have o2 : ∃ j, j < cyL T a b x ∧ abS a b (!pr2 false k) = abS a b (pr2 false j) ∧ (rk T a b x (k + 1) = rk T a b x j ∨ rk T a b x (k + 1) = rk T a b x (j + 1)) := by
    by_cases g : k + 1 < cyL T a b x
    · refine ⟨k + 1, g, ?_, Or.inl rfl⟩
      rw [sBx, sAx]
      by_cases g2 : k % 2 = 1
      · rw [if_pos g2, if_neg (by omega)]
      · rw [if_neg g2, if_pos (by omega)]
    · refine ⟨0, hp, ?_, Or.inl ?_⟩
      · rw [sBx, sAx, if_pos (by omega), if_neg (by omega)]
      · rw [show k + 1 = cyL T a b x by omega, cc]
        rfl
  obtain ⟨j1, j1l, s1, r1⟩ := o1
  obtain ⟨j2, j2l, s2, r2⟩ := o2
  obtain ⟨h0, h1, h2⟩ := h
  rcases h1 with e1 | e1 | e1 <;> rcases h2 with e2 | e2 | e2
  · exact absurd (e1.trans e2.symm) h0
  · exact mk j1 j1l u v h0 (Or.inl (e1.trans s1)) (Or.inr (by rw [e2]; exact r1))
  · exact mk j2 j2l u v h0 (Or.inl (e1.trans s2)) (Or.inr (by rw [e2]; exact r2))
  · exact mk j1 j1l u v h0 (Or.inr (by rw [e1]; exact r1)) (Or.inl (e2.trans s1))
  · exact absurd (e1.trans e2.symm) h0
  · exact mk k hk u v h0 (Or.inr (Or.inl e1)) (Or.inr (Or.inr e2))
  · exact mk j2 j2l u v h0 (Or.inr (by rw [e1]; exact r2)) (Or.inl (e2.trans s2))
  · exact mk k hk u v h0 (Or.inr (Or.inr e1)) (Or.inr (Or.inl e2))
  · exact absurd (e1.trans e2.symm) h0
/-- the switch can be made -/
theorem cy_ok {x : Nat} (hT : sOk V T) (aV : a < V) (bV : b < V) (hab : ¬ a = b) (hx : x < V) (ho : offP T a b x) (hp : 0 < cyL T a b x) : tkOk T (cyA T a b x (cyL T a b x)) ∧ sOk V (uTs T (cyA T a b x (cyL T a b x))) ∧ ptOk V (uTs T (cyA T a b x (cyL T a b x))) (cyC T a b x (cyL T a b x)) ∧ sOk V (swC T a b x) := by
  have h1 : tkOk T (cyA T a b x (cyL T a b x)) := tkOk_of (fun m hm => by
    obtain ⟨k, hk, e⟩ := List.mem_map.mp hm
    obtain ⟨l, q⟩ := cy_li hT hx ho hp k
    rw [← e, ← q]
    exact triM_m hT l) (prw_rg (fun j k g1 g2 => cy_dj hT hab hx ho hp (by omega) g2 (by omega)))
  have h2 := sOk_uTs hT h1
  have h3 : ptOk V (uTs T (cyA T a b x (cyL T a b x))) (cyC T a b x (cyL T a b x)) := ptOk_of (fun m hm => by
    obtain ⟨k, hk, e⟩ := List.mem_map.mp hm
    have hk := List.mem_range.mp hk
    obtain ⟨f1, f2, f3⟩ := cy_f hT hx ho hp k
    obtain ⟨g1, g2, -⟩ := cy_f hT hx ho hp (k + 1)
    have ne := (st_in hT f3).2.1
    rw [← e]
    refine freM_of h2 (by rw [sBx]; split <;> assumption) f2 g2 (by rw [sBx]; split <;> omega) ne (by rw [sBx]; split <;> omega) (fun u v q => ?_)
    obtain ⟨j, j1, j2⟩ := cy_fr hT hx ho hp hk q
    exact uTs_in (m := mA T a b x j) (List.mem_map.mpr ⟨j, List.mem_range.mpr j1, rfl⟩) j2) (prw_rg (fun j k g1 g2 => cyB_dj hT hab hx ho hp (by omega) g2 (by omega)))
  exact ⟨h1, h2, h3, sOk_uPs h2 h3⟩
end CM
end
