/-! ===== triples by their numbers ===== -/
theorem trL_ix {T : sT} {n : Nat} (hb : trB T n = true) : ∀ k, (trL T n).length < (trL T (n + 1 + k)).length ∧ (trL T (n + 1 + k)).getD (trL T n).length 0 = n
  | 0 => by
    show (trL T n).length < (trL T (n + 1)).length ∧ (trL T (n + 1)).getD (trL T n).length 0 = n
    rw [trL_add hb, gd_end, List.length_append, List.length_singleton]
    exact ⟨Nat.lt_succ_self _, rfl⟩
  | k + 1 => by
    obtain ⟨i1, i2⟩ := trL_ix hb k
    have e : trL T (n + 1 + (k + 1)) = (if trB T (n + 1 + k) = true then trL T (n + 1 + k) ++ [n + 1 + k] else trL T (n + 1 + k)) := rfl
    rw [e]
    split
    · rw [gd_app i1, List.length_append]
      exact ⟨by omega, i2⟩
    · exact ⟨i1, i2⟩
/-- the number of the triple of a covered pair -/
theorem ix_of {V : Nat} {T : sT} (hT : sOk V T) {a b : Nat} (h : ¬ T a b = -1) : ∃ t, t < (trL T 225).length ∧ (trL T 225).getD t 0 = cd T a b := by
  obtain ⟨g1, g2, -⟩ := cd_of hT h
  obtain ⟨k1, k2⟩ := trL_ix g1 (224 - cd T a b)
  rw [show cd T a b + 1 + (224 - cd T a b) = 225 by omega] at k1 k2
  exact ⟨_, k1, k2⟩
theorem gd_inj {T : sT} {s t : Nat} (hs : s < (trL T 225).length) (ht : t < (trL T 225).length) (e : (trL T 225).getD s 0 = (trL T 225).getD t 0) : s = t := by
  have h1 := (trL_get 225 s hs).2.2
  have h2 := (trL_get 225 t ht).2.2
  rw [e] at h1
  omega
theorem m3_eq {a b c x y z : Nat} (h : m3 a b c = m3 x y z) (i : Nat) : (i = a ∨ i = b ∨ i = c) ↔ (i = x ∨ i = y ∨ i = z) := by
  have : (m3 a b c).testBit i = (m3 x y z).testBit i := by rw [h]
  rw [m3_test, m3_test, decide_eq_decide] at this
  exact this
/-- the set of a triple of the list tells its third points -/
theorem mk_T {V : Nat} {T : sT} (hT : sOk V T) {n a b c : Nat} (hn : trB T n = true) (e : mk3 T n = m3 a b c) (hab : ¬ a = b) (hbc : ¬ b = c) (hac : ¬ a = c) : T a b = (c : Int) ∧ cd T a b = n := by
  obtain ⟨z, ez, h1, h2, h3⟩ := tr_pts hT hn
  have e2 : m3 (n / 15) (n % 15) z = m3 a b c := by rw [← e]; unfold mk3; rw [ez, Int.toNat_natCast]
  have q := fun i => m3_eq e2 i
  have qa := (q a).mpr (Or.inl rfl)
  have qb := (q b).mpr (Or.inr (Or.inl rfl))
  have qc := (q c).mpr (Or.inr (Or.inr rfl))
  have hp := cd_pr hT (u := a) (v := b) hn (by rw [ez, Int.toNat_natCast]; exact ⟨hab, qa, qb⟩)
  rw [ez] at hp
  obtain ⟨p1, p2, p3⟩ := hp
  refine ⟨?_, p3⟩
  omega
theorem mk_cd {V : Nat} {T : sT} (hT : sOk V T) {a b c : Nat} (e : T a b = (c : Int)) : mk3 T (cd T a b) = m3 a b c := by
  obtain ⟨g1, -, g3⟩ := cd_of hT (u := a) (v := b) (by omega)
  obtain ⟨z, ez, h1, h2, h3⟩ := tr_pts hT g1
  rw [ez, Int.toNat_natCast] at g3
  have hp := (cd_pr hT (u := a) (v := b) g1 (by rw [ez, Int.toNat_natCast]; exact g3)).1
  rw [ez, e] at hp
  unfold mk3
  rw [ez, Int.toNat_natCast]
  obtain ⟨k1, k2, k3⟩ := g3
  obtain ⟨w, ew, -, -, -, d1, d2, d3, -⟩ := sOk_at hT e (by omega)
  apply Nat.eq_of_testBit_eq
  intro i
  rw [m3_test, m3_test, decide_eq_decide]
  omega
def nmF (T : sT) (m : Nat) : Nat → Nat → Int
  | _, 0 => -1
  | k, f + 1 => if mk3 T ((trL T 225).getD k 0) = m then (k : Int) else nmF T m (k + 1) f
/-- the number of the triple with the set m; -1 -/
def nmT (T : sT) (m : Nat) : Int := nmF T m 0 (trL T 225).length
theorem nmF_no {T : sT} {m : Nat} : ∀ (f k : Nat), (∀ j, k ≤ j → j < k + f → ¬ mk3 T ((trL T 225).getD j 0) = m) → nmF T m k f = -1
  | 0, k, _ => rfl
  | f + 1, k, h => by
    unfold nmF
    rw [if_neg (h k (Nat.le_refl k) (by omega))]
    exact nmF_no f (k + 1) (fun j h1 h2 => h j (by omega) (by omega))
theorem nmF_at {T : sT} {m t : Nat} : ∀ (f k : Nat), k ≤ t → t < k + f → mk3 T ((trL T 225).getD t 0) = m → (∀ j, k ≤ j → j < t → ¬ mk3 T ((trL T 225).getD j 0) = m) → nmF T m k f = (t : Int)
  | 0, k, h1, h2, _, _ => by omega
  | f + 1, k, h1, h2, h3, h4 => by
    unfold nmF
    by_cases e : k = t
    · subst e
      rw [if_pos h3]
    · rw [if_neg (h4 k (Nat.le_refl k) (by omega))]
      exact nmF_at f (k + 1) (by omega) (by omega) h3 (fun j g1 g2 => h4 j (by omega) g2)
theorem nm_no {V : Nat} {T : sT} (hT : sOk V T) {a b c : Nat} (hab : ¬ a = b) (hbc : ¬ b = c) (hac : ¬ a = c) (h : ¬ T a b = (c : Int)) : nmT T (m3 a b c) = -1 := by
  refine nmF_no _ _ (fun j h1 h2 => fun e => h ?_)
  exact (mk_T hT (trL_get 225 j (by omega)).1 e hab hbc hac).1
theorem nm_at {V : Nat} {T : sT} (hT : sOk V T) {a b c t : Nat} (e : T a b = (c : Int)) (ht : t < (trL T 225).length) (hg : (trL T 225).getD t 0 = cd T a b) : nmT T (m3 a b c) = (t : Int) := by
  obtain ⟨w, ew, -, -, -, d1, d2, d3, -⟩ := sOk_at hT e (by omega)
  refine nmF_at _ _ (Nat.zero_le t) (by omega) (by rw [hg]; exact mk_cd hT e) (fun j h1 h2 z => ?_)
  have g := (mk_T hT (trL_get 225 j (by omega)).1 z (by omega) (by omega) (by omega)).2
  have := gd_inj (by omega) ht (g.symm.trans hg.symm)
  omega
theorem nm_of {V : Nat} {T : sT} (hT : sOk V T) {a b c : Nat} (e : T a b = (c : Int)) : ∃ t, t < (trL T 225).length ∧ (trL T 225).getD t 0 = cd T a b ∧ nmT T (m3 a b c) = (t : Int) := by
  obtain ⟨t, h1, h2⟩ := ix_of hT (a := a) (b := b) (by omega)
  exact ⟨t, h1, h2, nm_at hT e h1 h2⟩
/-- the set of the triple numbered t -/
theorem nm_mk {V : Nat} {T : sT} (hT : sOk V T) {t : Nat} (ht : t < (trL T 225).length) : nmT T (mk3 T ((trL T 225).getD t 0)) = (t : Int) := by
  obtain ⟨g1, g2, g3⟩ := trL_get 225 t ht
  obtain ⟨z, ez, h1, h2, h3⟩ := tr_pts hT g1
  refine nmF_at _ _ (Nat.zero_le t) (by omega) rfl (fun j k1 k2 w => ?_)
  have e2 : mk3 T ((trL T 225).getD t 0) = m3 ((trL T 225).getD t 0 / 15) ((trL T 225).getD t 0 % 15) z := by unfold mk3; rw [ez, Int.toNat_natCast]
  have c1 := (mk_T hT (trL_get 225 j (by omega)).1 (w.trans e2) (by omega) (by omega) (by omega)).2
  have c2 := (mk_T hT g1 e2 (by omega) (by omega) (by omega)).2
  have := gd_inj (s := j) (by omega) ht (by omega)
  omega
theorem u10 : bUp 0 am_m10.1 = true := by decide +kernel
theorem u11 : bUp 0 am_m11.1 = true := by decide +kernel
theorem u12 : bUp 0 am_m12.1 = true := by decide +kernel
theorem k_bdropU {d : Nat} {hp : amH} {R : xQ} {o V a b c : Nat} {T : sT} {s : Int32} (ho : bo o) (hH : bHk 84 bTT hp) (hB : bdOk hp o V T) (hs : s.toInt = ((m3 a b c : Nat) : Int)) (e : T a b = (c : Int))
    (hR : ∀ hp1, bHk 84 bTT hp1 → bFx [o + 1, o + 3] hp hp1 → bdOk hp1 o V (sTake T a b c) → R (.inl none) hp1) : xK (d + 2) 15 [.ref o, .int s] hp R := by
  have hT := hB.2.1
  obtain ⟨w, ew, l1, l2, l3, d1, d2, d3, t1, t2, t3, t4, t5⟩ := sOk_at hT e (by omega)
  have : w = c := by omega
  subst this
  have go : ∀ x y z : Nat, x < y → y < z → (∀ i, (i = a ∨ i = b ∨ i = w) ↔ (i = x ∨ i = y ∨ i = z)) → T x y = (z : Int) → xK (d + 2) 15 [.ref o, .int s] hp R := by
    intro x y z h1 h2 h3 h4
    have e1 : m3 a b w = m3 x y z := by
      apply Nat.eq_of_testBit_eq
      intro i
      rw [m3_test, m3_test, decide_eq_decide]
      exact h3 i
    have e2 : sTake T a b w = sTake T x y z := by
      funext u v
      unfold sTake
      have q : sPr a b w u v ↔ sPr x y z u v := by unfold sPr; rw [h3 u, h3 v]
      by_cases g : sPr a b w u v
      · rw [if_pos g, if_pos (q.mp g)]
      · rw [if_neg g, if_neg (fun z => g (q.mpr z))]
    rw [e2] at hR
    exact k_bdrop ho hH hB (by rw [hs, e1]) h1 h2 h4 hR
  rcases Nat.lt_or_gt_of_ne d1 with h1 | h1
  · rcases Nat.lt_or_gt_of_ne d3 with h2 | h2
    · exact go a b w h1 h2 (fun i => by omega) e
    · rcases Nat.lt_or_gt_of_ne d2 with h3 | h3
      · exact go a w b h3 h2 (fun i => by omega) t2
      · exact go w a b h3 h1 (fun i => by omega) t4
  · rcases Nat.lt_or_gt_of_ne d2 with h2 | h2
    · exact go b a w h1 h2 (fun i => by omega) t1
    · rcases Nat.lt_or_gt_of_ne d3 with h3 | h3
      · exact go b w a h3 h2 (fun i => by omega) t3
      · exact go w b a h3 h1 (fun i => by omega) t5
/-- one of three points leads to the others just as any two lead to the third -/
theorem T_perm {V : Nat} {T : sT} (hT : sOk V T) {a b c x y z : Nat} (h : ∀ i, (i = a ∨ i = b ∨ i = c) ↔ (i = x ∨ i = y ∨ i = z)) (hab : ¬ a = b) (hbc : ¬ b = c) (hac : ¬ a = c) (hxy : ¬ x = y) (hyz : ¬ y = z) (hxz : ¬ x = z) (e : T a b = (c : Int)) : T x y = (z : Int) := by
  obtain ⟨w, ew, l1, l2, l3, d1, d2, d3, t1, t2, t3, t4, t5⟩ := sOk_at hT e (by omega)
  have : w = c := by omega
  subst this
  have hx := (h x).mpr (Or.inl rfl)
  have hy := (h y).mpr (Or.inr (Or.inl rfl))
  have hz := (h z).mpr (Or.inr (Or.inr rfl))
  rcases hx with rfl | rfl | rfl <;> rcases hy with rfl | rfl | rfl <;> rcases hz with rfl | rfl | rfl <;> first | exact absurd rfl hxy | exact absurd rfl hyz | exact absurd rfl hxz | exact e | assumption
theorem k_hld {d : Nat} {hp : amH} {R : xQ} {o V a b c : Nat} {T : sT} {s : Int32} (ho : bo o) (hH : bHk 84 bTT hp) (hB : bdOk hp o V T) (hs : s.toInt = ((m3 a b c : Nat) : Int)) (ha : a < V) (hb : b < V) (hc : c < V) (hab : ¬ a = b) (hbc : ¬ b = c) (hac : ¬ a = c) (hR : ∀ r : Int32, ((r.toInt = 1 ∧ T a b = (c : Int)) ∨ (r.toInt = 0 ∧ ¬ T a b = (c : Int))) → R (.inl (some (.int r))) hp) : xK (d + 2) 12 [.ref o, .int s] hp R := by
  have hV := hB.2.1.2.1
  obtain ⟨x, y, z, g1, g2, g3, -, -, g6, g7⟩ := srt hab hbc hac
  obtain ⟨l1, l2, l3⟩ := g6 (fun i => i < V) ha hb hc
  have l1 : x < V := l1
  have l2 : y < V := l2
  have l3 : z < V := l3
  obtain ⟨M0, M1, M2⟩ := mem3 g1 g2 (by omega)
  have hm := m3_lt (x := x) (y := y) (z := z) (by omega) (by omega) (by omega)
  rw [g3] at hs
  have key : T a b = (c : Int) ↔ T x y = (z : Int) := ⟨T_perm hB.2.1 g7 hab hbc hac (by omega) (by omega) (by omega), T_perm hB.2.1 (fun i => (g7 i).symm) (by omega) (by omega) (by omega) hab hbc hac⟩
  refine xin (M := am_m12) rfl rfl (by unfold xAv; simp [amOk, bo_lt ho, Value.category]) ?_
  refine xild 1 ⟨u12, _, rfl⟩ rfl rfl ?_
  refine xcst 2 (2) ⟨u12, _, rfl⟩ rfl (by decide) (fun z1 h1 => ?_)
  refine xcallS 5 [.int _, .int _] [] hH ⟨u12, _, rfl⟩ rfl rfl rfl rfl rfl (k_mem hH hs hm (i := 2) (by omega) (fun z2 h2 => ⟨_, rfl, ?_⟩))
  refine xist 6 ⟨u12, _, rfl⟩ rfl rfl ?_
  refine xild 7 ⟨u12, _, rfl⟩ rfl rfl ?_
  refine xcst 8 (-1) ⟨u12, _, rfl⟩ rfl (by decide) (fun z7 h7 => ?_)
  refine xcmp_eq 11 ⟨u12, _, rfl⟩ rfl (fun c8 => ?_) (fun c8 => ?_)
  · omega
  · refine xald 12 ⟨u12, _, rfl⟩ rfl rfl ?_
    refine xild 13 ⟨u12, _, rfl⟩ rfl rfl ?_
    refine xcst 14 (0) ⟨u12, _, rfl⟩ rfl (by decide) (fun z13 h13 => ?_)
    refine xcallS 17 [.int _, .int _] [.ref (o)] hH ⟨u12, _, rfl⟩ rfl rfl rfl (by simp [amOkS, amOk, bo_lt ho, bo_lt1 ho, bo_lt2 ho, bo_lt3 ho, bo_lt4 ho]) rfl (k_mem hH hs hm (i := 0) (by omega) (fun z14 h14 => ⟨_, rfl, ?_⟩))
    refine xild 18 ⟨u12, _, rfl⟩ rfl rfl ?_
    refine xcst 19 (1) ⟨u12, _, rfl⟩ rfl (by decide) (fun z18 h18 => ?_)
    refine xcallS 22 [.int _, .int _] [.int _, .ref (o)] hH ⟨u12, _, rfl⟩ rfl rfl rfl (by simp [amOkS, amOk, bo_lt ho, bo_lt1 ho, bo_lt2 ho, bo_lt3 ho, bo_lt4 ho]) rfl (k_mem hH hs hm (i := 1) (by omega) (fun z19 h19 => ⟨_, rfl, ?_⟩))
    refine xcallC 25 (o := o) [.int _, .int _] [] hH ⟨u12, _, rfl⟩ rfl rfl (bo_lt ho) (bo_T ho) (by decide) rfl ⟨rfl, rfl, rfl, rfl⟩ rfl (k_thd ho hH hB (fun z22 h22 => ⟨_, rfl, ?_⟩))
    rw [if_pos (by omega), show z14.toInt.toNat = x by omega, show z19.toInt.toNat = y by omega] at h22
    refine xild 26 ⟨u12, _, rfl⟩ rfl rfl ?_
    refine xcmp_ne 29 ⟨u12, _, rfl⟩ rfl (fun c26 => ?_) (fun c26 => ?_)
    · refine xcst 34 (0) ⟨u12, _, rfl⟩ rfl (by decide) (fun z33 h33 => ?_)
      exact xretB ⟨u12, _, rfl⟩ rfl (by omega) (hR _ (Or.inr ⟨by omega, fun g => by have := key.mp g; omega⟩))
    · refine xcst 30 (1) ⟨u12, _, rfl⟩ rfl (by decide) (fun z29 h29 => ?_)
      refine xgoto ⟨u12, _, rfl⟩ ?_
      exact xretB ⟨u12, _, rfl⟩ rfl (by omega) (hR _ (Or.inl ⟨by omega, key.mpr (by omega)⟩))
/-- the number of the triple of a covered pair, as the board has it -/
theorem k_nbc {d : Nat} {hp : amH} {R : xQ} {o V x y : Nat} {T : sT} {a b : Int32} (ho : bo o) (hH : bHk 84 bTT hp) (hB : bdOk hp o V T) (hL : lsN hp o T 225) (ha : a.toInt = (x : Int)) (hb : b.toInt = (y : Int)) (h : ¬ T x y = -1) (hR : ∀ (r : Int32) (t : Nat), t < (trL T 225).length → (trL T 225).getD t 0 = cd T x y → r.toInt = (t : Int) → R (.inl (some (.int r))) hp) : xK (d + 1) 10 [.ref o, .int a, .int b] hp R := by
  have hV := hB.2.1.2.1
  have bV := hB.1
  obtain ⟨w, ew, l1, l2, l3, d1, d2, d3, -⟩ := sOk_at hB.2.1 rfl h
  obtain ⟨t, t1, t2⟩ := ix_of hB.2.1 h
  have cp := (cd_of hB.2.1 h).2.2
  have nb : rN hp (o + 2) (15 * x + y) = (t : Int) := hL.2.2 t x y t1 (by omega) (by omega) (by rw [t2]; exact cp)
  refine xin (M := am_m10) rfl rfl (by unfold xAv; simp [amOk, bo_lt ho, Value.category]) ?_
  refine xald 1 ⟨u10, _, rfl⟩ rfl rfl ?_
  refine xild 2 ⟨u10, _, rfl⟩ rfl rfl ?_
  refine xcallC 5 (o := o) [.int _] [] hH ⟨u10, _, rfl⟩ rfl rfl (bo_lt ho) (bo_T ho) (by decide) rfl ⟨rfl, rfl, rfl, rfl⟩ rfl (k_isp ho hH (fun z2 h2 => ⟨_, rfl, ?_⟩))
  refine xif_eq 8 ⟨u10, _, rfl⟩ rfl (fun c5 => ?_) (fun c5 => ?_)
  · omega
  · refine xald 9 ⟨u10, _, rfl⟩ rfl rfl ?_
    refine xild 10 ⟨u10, _, rfl⟩ rfl rfl ?_
    refine xcallC 13 (o := o) [.int _] [] hH ⟨u10, _, rfl⟩ rfl rfl (bo_lt ho) (bo_T ho) (by decide) rfl ⟨rfl, rfl, rfl, rfl⟩ rfl (k_isp ho hH (fun z10 h10 => ⟨_, rfl, ?_⟩))
    refine xif_eq 16 ⟨u10, _, rfl⟩ rfl (fun c13 => ?_) (fun c13 => ?_)
    · omega
    · refine xald 17 ⟨u10, _, rfl⟩ rfl rfl ?_
      refine xild 18 ⟨u10, _, rfl⟩ rfl rfl ?_
      refine xild 19 ⟨u10, _, rfl⟩ rfl rfl ?_
      refine xcallC 22 (o := o) [.int _, .int _] [] hH ⟨u10, _, rfl⟩ rfl rfl (bo_lt ho) (bo_T ho) (by decide) rfl ⟨rfl, rfl, rfl, rfl⟩ rfl (k_thd ho hH hB (fun z19 h19 => ⟨_, rfl, ?_⟩))
      rw [if_pos (by omega), show a.toInt.toNat = x by omega, show b.toInt.toNat = y by omega] at h19
      refine xcst 23 (-1) ⟨u10, _, rfl⟩ rfl (by decide) (fun z22 h22 => ?_)
      refine xcmp_eq 26 ⟨u10, _, rfl⟩ rfl (fun c23 => ?_) (fun c23 => ?_)
      · omega
      · refine xcst 27 (1) ⟨u10, _, rfl⟩ rfl (by decide) (fun z26 h26 => ?_)
        refine xgoto ⟨u10, _, rfl⟩ ?_
        refine xist 32 ⟨u10, _, rfl⟩ rfl rfl ?_
        refine xild 33 ⟨u10, _, rfl⟩ rfl rfl ?_
        refine xif_eq 36 ⟨u10, _, rfl⟩ rfl (fun c33 => ?_) (fun c33 => ?_)
        · omega
        · refine xald 37 ⟨u10, _, rfl⟩ rfl rfl ?_
          refine xgetD 40 (o + 2) hH ⟨u10, _, rfl⟩ rfl (bo_lt ho) (by decide) (bo_T ho) rfl (by decide) ?_
          refine xild 41 ⟨u10, _, rfl⟩ rfl rfl ?_
          refine xbip 43 (15) ⟨u10, _, rfl⟩ rfl (by decide) (fun z41 h41 => ?_)
          refine xmul 44 (Int32.toInt a * 15) ⟨u10, _, rfl⟩ rfl (by rw [h41]) (by omega) (by omega) (fun z43 h43 => ?_)
          refine xild 45 ⟨u10, _, rfl⟩ rfl rfl ?_
          refine xadd 46 _ ⟨u10, _, rfl⟩ rfl rfl (by omega) (by omega) (fun z45 h45 => ?_)
          refine xiald 47 (z45).toInt.toNat hH ⟨u10, _, rfl⟩ rfl (bo_lt2 ho) (bo_T2 ho) (by omega) (by omega) (fun z46 h46 => ?_)
          refine xgoto ⟨u10, _, rfl⟩ ?_
          exact xret ⟨u10, _, rfl⟩ rfl (hR _ t t1 t2 (by rw [h46, show z45.toInt.toNat = 15 * x + y by omega]; exact nb))
theorem k_nof {d : Nat} {hp : amH} {R : xQ} {o V a b c : Nat} {T : sT} {s : Int32} (ho : bo o) (hH : bHk 84 bTT hp) (hB : bdOk hp o V T) (hL : lsN hp o T 225) (hs : s.toInt = ((m3 a b c : Nat) : Int)) (ha : a < V) (hb : b < V) (hc : c < V) (hab : ¬ a = b) (hbc : ¬ b = c) (hac : ¬ a = c) (hR : ∀ r : Int32, r.toInt = nmT T (m3 a b c) → R (.inl (some (.int r))) hp) : xK (d + 3) 11 [.ref o, .int s] hp R := by
  have hs0 := hs
  have hV := hB.2.1.2.1
  obtain ⟨x, y, z, g1, g2, g3, -, -, g6, g7⟩ := srt hab hbc hac
  obtain ⟨l1, l2, l3⟩ := g6 (fun i => i < V) ha hb hc
  have l1 : x < V := l1
  have l2 : y < V := l2
  have l3 : z < V := l3
  obtain ⟨M0, M1, M2⟩ := mem3 g1 g2 (by omega)
  have hm := m3_lt (x := x) (y := y) (z := z) (by omega) (by omega) (by omega)
  rw [g3] at hs
  have key : T a b = (c : Int) ↔ T x y = (z : Int) := ⟨T_perm hB.2.1 g7 hab hbc hac (by omega) (by omega) (by omega), T_perm hB.2.1 (fun i => (g7 i).symm) (by omega) (by omega) (by omega) hab hbc hac⟩
  refine xin (M := am_m11) rfl rfl (by unfold xAv; simp [amOk, bo_lt ho, Value.category]) ?_
  refine xald 1 ⟨u11, _, rfl⟩ rfl rfl ?_
  refine xild 2 ⟨u11, _, rfl⟩ rfl rfl ?_
  refine xcallC 5 (o := o) [.int _] [] hH ⟨u11, _, rfl⟩ rfl rfl (bo_lt ho) (bo_T ho) (by decide) rfl ⟨rfl, rfl, rfl, rfl⟩ rfl (k_hld ho hH hB hs0 ha hb hc hab hbc hac (fun z2 h2 => ⟨_, rfl, ?_⟩))
  refine xif_eq 8 ⟨u11, _, rfl⟩ rfl (fun c5 => ?_) (fun c5 => ?_)
  · refine xcst 26 (-1) ⟨u11, _, rfl⟩ rfl (by decide) (fun z25 h25 => ?_)
    exact xret ⟨u11, _, rfl⟩ rfl (hR _ (by rw [nm_no hB.2.1 hab hbc hac (by omega)]; exact h25))
  · have exy : T x y = (z : Int) := key.mp (by omega)
    refine xald 9 ⟨u11, _, rfl⟩ rfl rfl ?_
    refine xild 10 ⟨u11, _, rfl⟩ rfl rfl ?_
    refine xcst 11 (0) ⟨u11, _, rfl⟩ rfl (by decide) (fun z10 h10 => ?_)
    refine xcallS 14 [.int _, .int _] [.ref (o)] hH ⟨u11, _, rfl⟩ rfl rfl rfl (by simp [amOkS, amOk, bo_lt ho, bo_lt1 ho, bo_lt2 ho, bo_lt3 ho, bo_lt4 ho]) rfl (k_mem hH hs hm (i := 0) (by omega) (fun z11 h11 => ⟨_, rfl, ?_⟩))
    refine xild 15 ⟨u11, _, rfl⟩ rfl rfl ?_
    refine xcst 16 (1) ⟨u11, _, rfl⟩ rfl (by decide) (fun z15 h15 => ?_)
    refine xcallS 19 [.int _, .int _] [.int _, .ref (o)] hH ⟨u11, _, rfl⟩ rfl rfl rfl (by simp [amOkS, amOk, bo_lt ho, bo_lt1 ho, bo_lt2 ho, bo_lt3 ho, bo_lt4 ho]) rfl (k_mem hH hs hm (i := 1) (by omega) (fun z16 h16 => ⟨_, rfl, ?_⟩))
    refine xcallC 22 (o := o) [.int _, .int _] [] hH ⟨u11, _, rfl⟩ rfl rfl (bo_lt ho) (bo_T ho) (by decide) rfl ⟨rfl, rfl, rfl, rfl⟩ rfl (k_nbc ho hH hB hL (x := x) (y := y) (by omega) (by omega) (by omega) (fun z19 t19 k19 e19 h19 => ⟨_, rfl, ?_⟩))
    refine xgoto ⟨u11, _, rfl⟩ ?_
    exact xret ⟨u11, _, rfl⟩ rfl (hR _ (by rw [g3, nm_at hB.2.1 exy k19 e19]; exact h19))
