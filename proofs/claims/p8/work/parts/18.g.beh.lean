/-! ===== ways by hand: what switches would bring ===== -/
def bf_134 : bEt := (222, ([.inr (.inr [66])], [], 2, [(66, 12), (72, 999), (73, 999), (74, 999), (75, 999)], [], [((some (.inl (0, 4294967295))), [])]), [(8, [(some (.inr (.inr [66]))), (some (.inl (0, 4294967295))), (some (.inl (2147483648, 2147483683))), none, none], [], [], [(0, 999992, 0), (1, 2, 0), (0, 8589934591, 0), (0, 8589934591, 0), (0, 8589934591, 0), (0, 8589934591, 0)]), (20, [(some (.inr (.inr [66]))), (some (.inl (0, 4294967295))), (some (.inl (2147483648, 2147483682))), (some (.inl (2147483649, 2147483683))), none], [(66, 12, 2147483649, 2147483683)], [], [(0, 999992, 0), (1, 2, 0), (0, 999980, 0), (1, 3, 0), (0, 8589934591, 0), (0, 8589934591, 0)]), (52, [(some (.inr (.inr [66]))), (some (.inl (0, 4294967295))), (some (.inl (2147483648, 2147483682))), (some (.inl (2147483649, 2147483682))), (some (.inl (2147483650, 2147483683)))], [(66, 12, 2147483650, 2147483683)], [], [(0, 999992, 0), (1, 2, 0), (0, 999980, 0), (1, 3, 0), (0, 999948, 0), (1, 4, 0)])], 3000, [])
theorem bR7_ok : bAll2 amGG bTT 84 bPr bQ6 [bf_134] = true := by decide +kernel
theorem bf134_s : bSem amGG P0 84 bTT 222 bf_134.2.1 := bAll2_s (by decide) P0_fr bR7_ok bQ6_s bf_134 List.mem_cons_self
theorem k_qcn {d : Nat} {hp : amH} {R : xQ} (hH : bHk 84 bTT hp) (hP : P0 hp) (hR : ∀ (z : Int32) hp1, bHk 84 bTT hp1 → P0 hp1 → bFr bLT hp hp1 → R (.inl (some (.int z))) hp1) : xK (d + 2) 222 [.ref 66] hp R :=
  xsem1 bf134_s (Nat.le_add_left 2 d) hH hP ⟨a66, trivial⟩ (noF hp) rfl rfl (fun z hp1 h1 h2 h3 _ _ => hR z hp1 h1 h2 (bFr_sub h3 (by decide)))
theorem uq_le {f g : Nat → Int} {m n : Nat} (hf : ∀ k l, k < l → l < m → f k < f l) (hg : ∀ k l, k < l → l < n → g k < g l) (h1 : ∀ k, k < m → ∃ l, l < n ∧ g l = f k) (h2 : ∀ k, k < n → ∃ l, l < m ∧ f l = g k) : ∀ k, k < m → k < n ∧ g k = f k := by
  intro k
  induction k using Nat.strongRecOn with
  | ind k ih =>
    intro hk
    obtain ⟨l, l1, l2⟩ := h1 k hk
    have kl : k ≤ l := by
      rcases Nat.lt_or_ge l k with q | q
      · have e := (ih l q (by omega)).2
        have := hf l k q hk
        omega
      · exact q
    have kn : k < n := by omega
    obtain ⟨i, i1, i2⟩ := h2 k kn
    have ki : k ≤ i := by
      rcases Nat.lt_or_ge i k with q | q
      · have e := (ih i q i1).2
        have := hg i k q kn
        omega
      · exact q
    refine ⟨kn, ?_⟩
    have a1 : f k ≤ f i := by
      rcases Nat.eq_or_lt_of_le ki with q | q
      · rw [q]; exact Int.le_refl _
      · exact Int.le_of_lt (hf k i q i1)
    have a2 : g k ≤ g l := by
      rcases Nat.eq_or_lt_of_le kl with q | q
      · rw [q]; exact Int.le_refl _
      · exact Int.le_of_lt (hg k l q l1)
    omega
theorem Lst_uq {hp hp1 : amH} {m m1 : Nat} (h : Lst hp m) (g : Lst hp1 m1) (he : ∀ u v, tT hp1 u v = tT hp u v) : m1 = m ∧ ∀ k, k < m → rN hp1 72 k = rN hp 72 k ∧ rN hp1 73 k = rN hp 73 k ∧ rN hp1 74 k = rN hp 74 k ∧ rN hp1 75 k = rN hp 75 k := by
  obtain ⟨h1, h2, h3, h4, h5⟩ := h
  obtain ⟨g1, g2, g3, g4, g5⟩ := g
  have c1 : ∀ k, k < m → ∃ l, l < m1 ∧ 15 * rN hp1 72 l + rN hp1 73 l = 15 * rN hp 72 k + rN hp 73 k := by
    intro k hk
    obtain ⟨x, y, z, a1, a2, a3, a4, a5, a6, a7, a8⟩ := h3 k hk
    obtain ⟨l, b1, b2, b3, b4⟩ := g5 x y z a1 a2 a3 (by rw [he]; exact a4)
    exact ⟨l, b1, by rw [b2, b3, a5, a6]⟩
  have c2 : ∀ k, k < m1 → ∃ l, l < m ∧ 15 * rN hp 72 l + rN hp 73 l = 15 * rN hp1 72 k + rN hp1 73 k := by
    intro k hk
    obtain ⟨x, y, z, a1, a2, a3, a4, a5, a6, a7, a8⟩ := g3 k hk
    obtain ⟨l, b1, b2, b3, b4⟩ := h5 x y z a1 a2 a3 (by rw [← he]; exact a4)
    exact ⟨l, b1, by rw [b2, b3, a5, a6]⟩
  have u1 := uq_le (f := fun k => 15 * rN hp 72 k + rN hp 73 k) (g := fun k => 15 * rN hp1 72 k + rN hp1 73 k) h4 g4 c1 c2
  have u2 := uq_le (f := fun k => 15 * rN hp1 72 k + rN hp1 73 k) (g := fun k => 15 * rN hp 72 k + rN hp 73 k) g4 h4 c2 c1
  have hmm : m1 = m := by
    rcases Nat.lt_trichotomy m m1 with q | q | q
    · have := (u2 m q).1
      omega
    · exact q.symm
    · have := (u1 m1 q).1
      omega
  refine ⟨hmm, fun k hk => ?_⟩
  have e := (u1 k hk).2

  obtain ⟨x, y, z, a1, a2, a3, a4, a5, a6, a7, a8⟩ := h3 k hk
  obtain ⟨x1, y1, z1, b1, b2, b3, b4, b5, b6, b7, b8⟩ := g3 k (by omega)
  have ex : x1 = x := by omega
  have ey : y1 = y := by omega
  subst ex
  subst ey
  rw [he, a4] at b4
  have ez : z1 = z := by omega
  subst ez
  exact ⟨by rw [a5, b5], by rw [a6, b6], by rw [a7, b7], by rw [a8, b8]⟩
/-- lists of triples and of quadrilaterals, as they should be -/
def QX (hp : amH) (m : Nat) (A : Nat → Nat × Nat × Nat) (n : Nat) : Prop := Lst hp m ∧ Arr hp m A ∧ Sys (tT hp) (rN hp 67 0) m A ∧ QLn hp m A n ∧ rN hp 66 14 = (n : Int)
def wQX : List (Nat × Nat) := (66, 14) :: (76, 999) :: bPL
theorem QX_W {W : List (Nat × Nat)} (hW : bDj W wQX = true) {hp hp1 : amH} (hF : bFr W hp hp1) {m n : Nat} {A : Nat → Nat × Nat × Nat} (h : QX hp m A n) : QX hp1 m A n := by
  have e : ∀ c i, bIn wQX c i = true → rN hp1 c i = rN hp c i := fun c i hc => r_fr hF (bDj_s hW c i hc)
  have F2 : bFr W hp hp1 := hF
  obtain ⟨h1, h2, h3, h4, h5⟩ := h
  have te : tT hp1 = tT hp := funext fun u => funext fun v => e 67 _ (bIn_all (by decide) _)
  have e0 : rN hp1 67 0 = rN hp 67 0 := e 67 0 (bIn_all (by decide) _)
  have sub : ∀ p ∈ bPL, bIn wQX p.1 p.2 = true := by decide
  refine ⟨?_, ⟨(e 66 12 (by decide)).trans h2.1, fun k hk => ?_⟩, by rw [te, e0]; exact h3, fun q hq => ?_, (e 66 14 (by decide)).trans h5⟩
  · obtain ⟨l1, l2, l3, l4, l5⟩ := h1
    have e72 : ∀ i, rN hp1 72 i = rN hp 72 i := fun i => e 72 _ (bIn_all (by decide) _)
    have e73 : ∀ i, rN hp1 73 i = rN hp 73 i := fun i => e 73 _ (bIn_all (by decide) _)
    have e74 : ∀ i, rN hp1 74 i = rN hp 74 i := fun i => e 74 _ (bIn_all (by decide) _)
    have e75 : ∀ i, rN hp1 75 i = rN hp 75 i := fun i => e 75 _ (bIn_all (by decide) _)
    refine ⟨(e 66 12 (by decide)).trans l1, l2, fun k hk => ?_, fun k l a b => by rw [e72, e73, e72, e73]; exact l4 k l a b, fun x y z a b c d => ?_⟩
    · obtain ⟨x, y, z, g1, g2, g3, g4, g5, g6, g7, g8⟩ := l3 k hk
      exact ⟨x, y, z, g1, g2, g3, by rw [te]; exact g4, (e72 k).trans g5, (e73 k).trans g6, (e74 k).trans g7, (e75 k).trans g8⟩
    · obtain ⟨k, g1, g2, g3, g4⟩ := l5 x y z a b c (by rw [← te]; exact d)
      exact ⟨k, g1, (e72 k).trans g2, (e73 k).trans g3, (e74 k).trans g4⟩
  · obtain ⟨a1, a2, a3, a4⟩ := h2.2 k hk
    exact ⟨(e 72 _ (bIn_all (by decide) _)).trans a1, (e 73 _ (bIn_all (by decide) _)).trans a2, (e 74 _ (bIn_all (by decide) _)).trans a3, (e 75 _ (bIn_all (by decide) _)).trans a4⟩
  · obtain ⟨i, j, k, l, g1, g2, g3, g4, g5, g6, g7, g8, g9⟩ := h4 q hq
    exact ⟨i, j, k, l, g1, g2, g3, g4, (e 76 _ (bIn_all (by decide) _)).trans g5, (e 76 _ (bIn_all (by decide) _)).trans g6, (e 76 _ (bIn_all (by decide) _)).trans g7, (e 76 _ (bIn_all (by decide) _)).trans g8, g9⟩
theorem k_lqx {d : Nat} {hp : amH} {R : xQ} (hH : bHk 84 bTT hp) (hP : P0 hp) (hR : ∀ hp1 (m : Nat) (A : Nat → Nat × Nat × Nat) (n : Nat), bHk 84 bTT hp1 → P0 hp1 → bFr wLQ hp hp1 → QX hp1 m A n → R (.inl none) hp1) : xK (d + 2) 216 [.ref 66] hp R :=
  k_lq hH hP (fun hp1 m A h1 h2 h3 h4 h5 ⟨n, h6, h7⟩ h8 => hR hp1 m A n h1 h2 h3 ⟨h8, h4, h5, h7, h6⟩)
def wSQ : List (Nat × Nat) := [(67, 999), (77, 999)]
theorem k_swq {d : Nat} {hp : amH} {R : xQ} {q : Int32} {m n : Nat} {A : Nat → Nat × Nat × Nat} (hH : bHk 84 bTT hp) (hP : P0 hp) (hX : QX hp m A n) (q0 : 0 ≤ q.toInt) (qn : q.toInt < (n : Int)) (hR : ∀ hp1, bHk 84 bTT hp1 → P0 hp1 → bFr wSQ hp hp1 → R (.inl none) hp1) : xK (d + 2) 220 [.ref 66, .int q] hp R := by
  obtain ⟨-, hA, hS, hQ, hn⟩ := hX
  have p15 := hP.1.2.1
  have m35 := hS.1
  have hb14 := rb_fld hH (f := 14) (lo := 2147483648) (hi := 2147483848) rfl
  obtain ⟨i, j, k, l, hij, hjk, hkl, hlm, r0, r1, r2, r3, hx⟩ := hQ q.toInt.toNat (by omega)
  have hI : ∀ x, x < 4 → ix i j k l x < m := fun x hx => ix_lt hij hjk hkl hlm hx
  have hQd := qd_of p15 hS hij hjk hkl hlm hx
  obtain ⟨a, b, c, d1, e, f, h6⟩ := qd_six hQd
  have h6 := six_P h6
  have hTr := qd_Trs hS hij hjk hkl hlm
  have hSw := qd_Sws hTr h6
  have hm : ∀ k, k < m → b3 (A k).1 (A k).2.1 (A k).2.2 = (mk A k : Int) := fun k hk => (mk_lt p15 hS hk).2
  have hl : ∀ k, k < m → mk A k < 32768 := fun k hk => (mk_lt p15 hS hk).1
  have hb : ∀ x, x < 4 → ∀ w, (mk A (ix i j k l x)).testBit w = true ↔ me (fun x => A (ix i j k l x)) x w := fun x hx w => mk_bit p15 hS (hI x hx)
  have eq : q.toInt = (q.toInt.toNat : Int) := by omega
  have Q200 : q.toInt.toNat < 200 := by omega
  have hQr : Qr hp q.toInt.toNat (ix i j k l) := by
    intro x hx
    have : x = 0 ∨ x = 1 ∨ x = 2 ∨ x = 3 := by omega
    rcases this with rfl | rfl | rfl | rfl
    · exact r0
    · exact r1
    · exact r2
    · exact r3
  refine xin (M := am_m220) rfl rfl rfl ?_
  refine xcst 1 (0) ⟨u220, _, rfl⟩ rfl (by decide) (fun z0 h0 => ?_)
  refine xist 2 ⟨u220, _, rfl⟩ rfl rfl ?_
  refine xpad 1 ?_
  refine l220a (hp0 := hp) p15 m35 hI hTr h6 hSw hm hl hb eq Q200 (fun k1 v1 hp1 g1 g2 g3 => ?_) 4 0 _ _ hp hH ⟨hA, hQr⟩ (bFr.refl _ _) (by omega) (by omega) (by omega) (fun x hx => by omega)
  refine xcst 140 (0) ⟨u220, _, rfl⟩ rfl (by decide) (fun z139 h139 => ?_)
  refine xist 141 ⟨u220, _, rfl⟩ rfl rfl ?_
  have hP1 := P0_W (W := [(77, 999)]) (by decide) g2 hP
  have te : tT hp1 = tT hp := funext fun u => funext fun v => r_fr g2 rfl
  refine l220b (Q := 0) (hp0 := hp1) p15 m35 hI hTr h6 hSw (fun k2 v2 hp2 f1 f2 f3 f4 f5 f6 => ?_) 4 0 _ _ hp1 g1 hP1 (bFr.refl _ _) (r_fr g2 rfl) g3 (fun u v hu hv => ⟨fun i hi => by omega, fun _ => by rw [te]⟩) (by omega) (by omega) (by omega)
  refine xcst 180 (0) ⟨u220, _, rfl⟩ rfl (by decide) (fun z179 h179 => ?_)
  refine xist 181 ⟨u220, _, rfl⟩ rfl rfl ?_
  exact l220c (Q := 0) (hp0 := hp2) p15 m35 hI hTr h6 hSw (fun k3 v3 hp3 e1 e2 e3 _ _ _ => e220 e1 e2 (fun hp4 d1 d2 d3 => hR hp4 d1 d2 ((bFr_in g2 (by simp [wSQ])).trans ((bFr_in f3 (by simp [wSQ])).trans ((bFr_in e3 (by simp [wSQ])).trans (bFr_in d3 (by simp [wSQ]))))))) 4 0 _ _ hp2 f1 f2 (bFr.refl _ _) f4 f5 (Ptn_0 f6) (by omega) (by omega) (by omega)
