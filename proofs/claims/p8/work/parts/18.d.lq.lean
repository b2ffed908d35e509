/-! ===== ways by hand: quadrilaterals laid (2) ===== -/
theorem k_isT {d : Nat} {hp : amH} {R : xQ} {w : Int32} (hH : bHk 84 bTT hp) (hP : P0 hp) (w0 : 0 ≤ w.toInt) (w1 : w.toInt ≤ 32767) (hR : ∀ (z : Int32) hp1, bHk 84 bTT hp1 → P0 hp1 → bFr [] hp hp1 → (z.toInt = 0 ∨ z.toInt = 1) → R (.inl (some (.int z))) hp1) : xK (d + 1) 221 [.ref 66, .int w] hp R :=
  xsem1 h221_s (Nat.le_add_left 1 d) hH hP ⟨a66, aIV (by omega) (by omega), trivial⟩ (noF hp) rfl rfl (fun z hp1 h1 h2 h3 h4 h5 => hR z hp1 h1 h2 h3 (by omega))
theorem l216k {d : Nat} {hp0 : amH} {R : xQ} {i j : Int32} {i1 j1 : Nat} {T : Nat → Nat → Int} {p : Int} {m : Nat} {A : Nat → Nat × Nat × Nat} (p15 : p ≤ 15) (hS : Sys T p m A) (ei : i.toInt = (i1 : Int)) (ej : j.toInt = (j1 : Int)) (hij : i1 < j1) (hjm : j1 < m) (hK : ∀ (k : Int32) (v w : Option Value) (_ : Unit) hp, bHk 84 bTT hp → P0 hp → bFr wQd hp0 hp → Arr hp m A → QL hp m A → xV (d + 2) am_m216 126 [some (.ref 66), some (.int i), some (.int j), some (.int k), v, w] [] hp R) :
    ∀ (jj : Nat) (k : Int32) (v w : Option Value) hp, bHk 84 bTT hp → P0 hp → bFr wQd hp0 hp → Arr hp m A → QL hp m A → k.toInt + (jj : Int) = 36 → j.toInt < k.toInt → xV (d + 2) am_m216 54 [some (.ref 66), some (.int i), some (.int j), some (.int k), v, w] [] hp R := by
  intro jj
  induction jj using Nat.strongRecOn with
  | ind jj ih =>
    intro k v w hp hH hP hF hA hQ hjj hk
    have am := hA.1
    have m35 := hS.1
    have j103 : k.toInt < (m : Int) → ∀ (w1 : Int32) hp1, bHk 84 bTT hp1 → P0 hp1 → bFr wQd hp0 hp1 → Arr hp1 m A → QL hp1 m A → ∀ last : Int32, (last.toInt = -1 ∨ ∃ l1 : Nat, last.toInt = (l1 : Int) ∧ l1 < m ∧ mk A i1 ^^^ mk A j1 ^^^ mk A k.toInt.toNat = mk A l1) → xV (d + 2) am_m216 103 [some (.ref 66), some (.int i), some (.int j), some (.int k), some (.int w1), w] [.int last] hp1 R := by
      intro km w1 hp1 hH1 hP1 hF1 hA1 hQ1 last hlast
      have ek : k.toInt = (k.toInt.toNat : Int) := by omega
      refine xist2 105 ⟨u216, _, rfl⟩ rfl rfl ?_
      refine xild2 107 ⟨u216, _, rfl⟩ rfl rfl ?_
      refine xild 108 ⟨u216, _, rfl⟩ rfl rfl ?_
      refine xcmp_le 111 ⟨u216, _, rfl⟩ rfl (fun c108 => ?_) (fun c108 => ?_)
      · refine xinc 123 (1) ⟨u216, _, rfl⟩ rfl rfl rfl (by decide) (by omega) (by omega) (fun z120 h120 => ?_)
        refine xgoto ⟨u216, _, rfl⟩ ?_
        exact ih (jj - 1) (by omega) _ _ _ hp1 hH1 hP1 hF1 hA1 hQ1 (by omega) (by omega)
      · obtain ⟨l1, el, hl1, hxl⟩ : ∃ l1 : Nat, last.toInt = (l1 : Int) ∧ l1 < m ∧ mk A i1 ^^^ mk A j1 ^^^ mk A k.toInt.toNat = mk A l1 := by
          rcases hlast with g | g
          · omega
          · exact g
        refine xald 112 ⟨u216, _, rfl⟩ rfl rfl ?_
        refine xild 113 ⟨u216, _, rfl⟩ rfl rfl ?_
        refine xild 114 ⟨u216, _, rfl⟩ rfl rfl ?_
        refine xild 115 ⟨u216, _, rfl⟩ rfl rfl ?_
        refine xild2 117 ⟨u216, _, rfl⟩ rfl rfl ?_
        refine xcall 120 [.ref 66, .int _, .int _, .int _, .int _] [] hH1 ⟨u216, _, rfl⟩ rfl rfl rfl rfl rfl (k_addq hH1 hP1 m35 hQ1 ei ej ek el hij (by omega) (by omega) (by omega) hxl (fun hp117 hH117 hP117 F117 hQ117 => ⟨_, rfl, ?_⟩))
        refine xinc 123 (1) ⟨u216, _, rfl⟩ rfl rfl rfl (by decide) (by omega) (by omega) (fun z120 h120 => ?_)
        refine xgoto ⟨u216, _, rfl⟩ ?_
        exact ih (jj - 1) (by omega) _ _ _ hp117 hH117 hP117 (hF1.trans F117) (Arr_W (W := wQd) (by decide) F117 hA1) hQ117 (by omega) (by omega)
    refine xild 55 ⟨u216, _, rfl⟩ rfl rfl ?_
    refine xald 56 ⟨u216, _, rfl⟩ rfl rfl ?_
    refine xgetI 59 hH ⟨u216, _, rfl⟩ rfl rfl (fun z56 h56 => ?_)
    refine xcmp_ge 62 ⟨u216, _, rfl⟩ rfl (fun c59 => ?_) (fun c59 => ?_)
    · exact hK _ _ _ () hp hH hP hF hA hQ
    · refine xald 63 ⟨u216, _, rfl⟩ rfl rfl ?_
      refine xgetR 66 75 hH ⟨u216, _, rfl⟩ rfl rfl ?_
      refine xild 67 ⟨u216, _, rfl⟩ rfl rfl ?_
      refine xiald 68 (i).toInt.toNat hH ⟨u216, _, rfl⟩ rfl (by decide) rfl (by omega) (by omega) (fun z67 h67 => ?_)
      refine xald 69 ⟨u216, _, rfl⟩ rfl rfl ?_
      refine xgetR 72 75 hH ⟨u216, _, rfl⟩ rfl rfl ?_
      refine xild 73 ⟨u216, _, rfl⟩ rfl rfl ?_
      refine xiald 74 (j).toInt.toNat hH ⟨u216, _, rfl⟩ rfl (by decide) rfl (by omega) (by omega) (fun z73 h73 => ?_)
      refine xxor 75 ⟨u216, _, rfl⟩ rfl ?_
      refine xald 76 ⟨u216, _, rfl⟩ rfl rfl ?_
      refine xgetR 79 75 hH ⟨u216, _, rfl⟩ rfl rfl ?_
      refine xild 80 ⟨u216, _, rfl⟩ rfl rfl ?_
      refine xiald 81 (k).toInt.toNat hH ⟨u216, _, rfl⟩ rfl (by decide) rfl (by omega) (by omega) (fun z80 h80 => ?_)
      refine xxor 82 ⟨u216, _, rfl⟩ rfl ?_
      have mi := mk_lt p15 hS (k := i1) (by omega)
      have mj := mk_lt p15 hS (k := j1) (by omega)
      have mkk := mk_lt p15 hS (k := k.toInt.toNat) (by omega)
      have vi : z67.toInt = (mk A i1 : Int) := by rw [h67, show i.toInt.toNat = i1 by omega, (hA.2 i1 (by omega)).2.2.2, mi.2]
      have vj : z73.toInt = (mk A j1 : Int) := by rw [h73, show j.toInt.toNat = j1 by omega, (hA.2 j1 (by omega)).2.2.2, mj.2]
      have vk : z80.toInt = (mk A k.toInt.toNat : Int) := by rw [h80, (hA.2 k.toInt.toNat (by omega)).2.2.2, mkk.2]
      have x1 := i_xor vi vj mi.1 mj.1
      have x2 := i_xor x1.1 vk x1.2 mkk.1
      refine xist2 84 ⟨u216, _, rfl⟩ rfl rfl ?_
      refine xald 85 ⟨u216, _, rfl⟩ rfl rfl ?_
      refine xild2 87 ⟨u216, _, rfl⟩ rfl rfl ?_
      refine xcall 90 [.ref 66, .int _] [] hH ⟨u216, _, rfl⟩ rfl rfl rfl rfl rfl (k_isT hH hP (by omega) (by omega) (fun z87 hp87 hH87 hP87 F87 h87 => ⟨_, rfl, ?_⟩))
      have hA87 := Arr_W (W := []) (by decide) F87 hA
      have hQ87 := QL_W (W := []) (by decide) F87 hQ
      have e87 : rN hp87 67 0 = rN hp 67 0 := r_fr F87 rfl
      have t87 : ∀ u v, tT hp87 u v = tT hp u v := fun u v => r_fr F87 rfl
      refine xif_eq 93 ⟨u216, _, rfl⟩ rfl (fun c90 => ?_) (fun c90 => ?_)
      · refine xcst 103 (-1) ⟨u216, _, rfl⟩ rfl (by decide) (fun z102 h102 => ?_)
        exact j103 (by omega) _ hp87 hH87 hP87 (hF.trans (bFr_sub F87 (by decide))) hA87 hQ87 _ (Or.inl (by omega))
      · refine xald 94 ⟨u216, _, rfl⟩ rfl rfl ?_
        refine xild2 96 ⟨u216, _, rfl⟩ rfl rfl ?_
        refine xcall 99 [.ref 66, .int _] [] hH87 ⟨u216, _, rfl⟩ rfl rfl rfl rfl rfl (k_num2 hH87 (hA87.1) m35 (fun z96 h96 => ⟨_, rfl, ?_⟩))
        refine xgoto ⟨u216, _, rfl⟩ ?_
        exact j103 (by omega) _ hp87 hH87 hP87 (hF.trans (bFr_sub F87 (by decide))) hA87 hQ87 _ (by
          rcases h96 with g | ⟨g1, g2, g3⟩
          · exact Or.inl g
          · refine Or.inr ⟨z96.toInt.toNat, by omega, by omega, ?_⟩
            have := (hA87.2 z96.toInt.toNat (by omega)).2.2.2
            rw [(mk_lt p15 hS (by omega)).2] at this
            omega)
theorem l216j {d : Nat} {hp0 : amH} {R : xQ} {i : Int32} {i1 : Nat} {T : Nat → Nat → Int} {p : Int} {m : Nat} {A : Nat → Nat × Nat × Nat} (p15 : p ≤ 15) (hS : Sys T p m A) (ei : i.toInt = (i1 : Int)) (him : i1 < m) (hJ : ∀ (j : Int32) (x v w : Option Value) hp, bHk 84 bTT hp → P0 hp → bFr wQd hp0 hp → Arr hp m A → QL hp m A → xV (d + 2) am_m216 132 [some (.ref 66), some (.int i), some (.int j), x, v, w] [] hp R) :
    ∀ (jj : Nat) (j : Int32) (x v w : Option Value) hp, bHk 84 bTT hp → P0 hp → bFr wQd hp0 hp → Arr hp m A → QL hp m A → j.toInt + (jj : Int) = 36 → i.toInt < j.toInt → xV (d + 2) am_m216 23 [some (.ref 66), some (.int i), some (.int j), x, v, w] [] hp R := by
  intro jj
  induction jj using Nat.strongRecOn with
  | ind jj ih =>
    intro j x v w hp hH hP hF hA hQ hjj hj
    have am := hA.1
    have m35 := hS.1
    have j126 : j.toInt < (m : Int) → ∀ hp1, bHk 84 bTT hp1 → P0 hp1 → bFr wQd hp0 hp1 → Arr hp1 m A → QL hp1 m A → ∀ x1 v1 w1, xV (d + 2) am_m216 126 [some (.ref 66), some (.int i), some (.int j), x1, v1, w1] [] hp1 R := by
      intro jm hp1 hH1 hP1 hF1 hA1 hQ1 x1 v1 w1
      refine xinc 129 (1) ⟨u216, _, rfl⟩ rfl rfl rfl (by decide) (by omega) (by omega) (fun z126 h126 => ?_)
      refine xgoto ⟨u216, _, rfl⟩ ?_
      exact ih (jj - 1) (by omega) _ _ _ _ hp1 hH1 hP1 hF1 hA1 hQ1 (by omega) (by omega)
    refine xild 24 ⟨u216, _, rfl⟩ rfl rfl ?_
    refine xald 25 ⟨u216, _, rfl⟩ rfl rfl ?_
    refine xgetI 28 hH ⟨u216, _, rfl⟩ rfl rfl (fun z25 h25 => ?_)
    refine xcmp_ge 31 ⟨u216, _, rfl⟩ rfl (fun c28 => ?_) (fun c28 => ?_)
    · exact hJ _ _ _ _ hp hH hP hF hA hQ
    · refine xald 32 ⟨u216, _, rfl⟩ rfl rfl ?_
      refine xgetR 35 75 hH ⟨u216, _, rfl⟩ rfl rfl ?_
      refine xild 36 ⟨u216, _, rfl⟩ rfl rfl ?_
      refine xiald 37 (i).toInt.toNat hH ⟨u216, _, rfl⟩ rfl (by decide) rfl (by omega) (by omega) (fun z36 h36 => ?_)
      refine xald 38 ⟨u216, _, rfl⟩ rfl rfl ?_
      refine xgetR 41 75 hH ⟨u216, _, rfl⟩ rfl rfl ?_
      refine xild 42 ⟨u216, _, rfl⟩ rfl rfl ?_
      refine xiald 43 (j).toInt.toNat hH ⟨u216, _, rfl⟩ rfl (by decide) rfl (by omega) (by omega) (fun z42 h42 => ?_)
      refine xand 44 ⟨u216, _, rfl⟩ rfl ?_
      refine xif_ne 47 ⟨u216, _, rfl⟩ rfl (fun c44 => ?_) (fun c44 => ?_)
      · refine xild 51 ⟨u216, _, rfl⟩ rfl rfl ?_
        refine xcst 52 (1) ⟨u216, _, rfl⟩ rfl (by decide) (fun z51 h51 => ?_)
        refine xadd 53 _ ⟨u216, _, rfl⟩ rfl rfl (by omega) (by omega) (fun z52 h52 => ?_)
        refine xist 54 ⟨u216, _, rfl⟩ rfl rfl ?_
        exact l216k p15 hS ei (j1 := j.toInt.toNat) (by omega) (by omega) (by omega) (fun k1 v1 w1 _ hp1 k2 k3 k4 k5 k6 => j126 (by omega) hp1 k2 k3 k4 k5 k6 _ _ _) (35 - j.toInt).toNat _ _ _ hp hH hP hF hA hQ (by omega) (by omega)
      · refine xgoto ⟨u216, _, rfl⟩ ?_
        exact j126 (by omega) hp hH hP hF hA hQ _ _ _
theorem l216i {d : Nat} {hp0 : amH} {R : xQ} {T : Nat → Nat → Int} {p : Int} {m : Nat} {A : Nat → Nat × Nat × Nat} (p15 : p ≤ 15) (hS : Sys T p m A) (hR : ∀ hp, bHk 84 bTT hp → P0 hp → bFr wQd hp0 hp → Arr hp m A → QL hp m A → R (.inl none) hp) :
    ∀ (jj : Nat) (i : Int32) (y x v w : Option Value) hp, bHk 84 bTT hp → P0 hp → bFr wQd hp0 hp → Arr hp m A → QL hp m A → i.toInt + (jj : Int) = 36 → 0 ≤ i.toInt → xV (d + 2) am_m216 11 [some (.ref 66), some (.int i), y, x, v, w] [] hp R := by
  intro jj
  induction jj using Nat.strongRecOn with
  | ind jj ih =>
    intro i y x v w hp hH hP hF hA hQ hjj hi
    have am := hA.1
    have m35 := hS.1
    have j132 : i.toInt < (m : Int) → ∀ hp1, bHk 84 bTT hp1 → P0 hp1 → bFr wQd hp0 hp1 → Arr hp1 m A → QL hp1 m A → ∀ y1 x1 v1 w1, xV (d + 2) am_m216 132 [some (.ref 66), some (.int i), y1, x1, v1, w1] [] hp1 R := by
      intro im hp1 hH1 hP1 hF1 hA1 hQ1 y1 x1 v1 w1
      refine xinc 135 (1) ⟨u216, _, rfl⟩ rfl rfl rfl (by decide) (by omega) (by omega) (fun z126 h126 => ?_)
      refine xgoto ⟨u216, _, rfl⟩ ?_
      exact ih (jj - 1) (by omega) _ _ _ _ _ hp1 hH1 hP1 hF1 hA1 hQ1 (by omega) (by omega)
    refine xild 12 ⟨u216, _, rfl⟩ rfl rfl ?_
    refine xald 13 ⟨u216, _, rfl⟩ rfl rfl ?_
    refine xgetI 16 hH ⟨u216, _, rfl⟩ rfl rfl (fun z13 h13 => ?_)
    refine xcmp_ge 19 ⟨u216, _, rfl⟩ rfl (fun c16 => ?_) (fun c16 => ?_)
    · exact xretV ⟨u216, _, rfl⟩ rfl (hR hp hH hP hF hA hQ)
    · refine xild 20 ⟨u216, _, rfl⟩ rfl rfl ?_
      refine xcst 21 (1) ⟨u216, _, rfl⟩ rfl (by decide) (fun z20 h20 => ?_)
      refine xadd 22 _ ⟨u216, _, rfl⟩ rfl rfl (by omega) (by omega) (fun z21 h21 => ?_)
      refine xist 23 ⟨u216, _, rfl⟩ rfl rfl ?_
      exact l216j p15 hS (i1 := i.toInt.toNat) (by omega) (by omega) (fun j1 x1 v1 w1 hp1 k2 k3 k4 k5 k6 => j132 (by omega) hp1 k2 k3 k4 k5 k6 _ _ _ _) (35 - i.toInt).toNat _ _ _ _ hp hH hP hF hA hQ (by omega) (by omega)
def wLQ : List (Nat × Nat) := (66, 14) :: (76, 999) :: bLT
theorem k_lq {d : Nat} {hp : amH} {R : xQ} (hH : bHk 84 bTT hp) (hP : P0 hp) (hR : ∀ hp1 (m : Nat) (A : Nat → Nat × Nat × Nat), bHk 84 bTT hp1 → P0 hp1 → bFr wLQ hp hp1 → Arr hp1 m A → Sys (tT hp1) (rN hp1 67 0) m A → QL hp1 m A → Lst hp1 m → R (.inl none) hp1) : xK (d + 2) 216 [.ref 66] hp R := by
  refine xin (M := am_m216) rfl rfl rfl ?_
  refine xald 1 ⟨u216, _, rfl⟩ rfl rfl ?_
  refine xcall 4 [.ref 66] [] hH ⟨u216, _, rfl⟩ rfl rfl rfl rfl rfl (k_lst hH hP (fun hp1 m hH1 hP1 F1 hL1 => ⟨_, rfl, ?_⟩))
  have e1 : rN hp1 67 0 = rN hp 67 0 := r_fr F1 rfl
  have t1 : ∀ u v, tT hp1 u v = tT hp u v := fun u v => r_fr F1 rfl
  refine xald 5 ⟨u216, _, rfl⟩ rfl rfl ?_
  refine xcst 6 (0) ⟨u216, _, rfl⟩ rfl (by decide) (fun z5 h5 => ?_)
  refine xputI 9 hH1 ⟨u216, _, rfl⟩ rfl rfl ⟨rfl, rfl⟩ (by omega) (by omega) (fun hp6 hH6 U6 => ?_)
  refine xcst 10 (0) ⟨u216, _, rfl⟩ rfl (by decide) (fun z9 h9 => ?_)
  refine xist 11 ⟨u216, _, rfl⟩ rfl rfl ?_
  obtain ⟨A, hA, hS⟩ := Lst_A hP1.1 hL1
  refine xpad 4 ?_
  exact l216i hP1.1.2.1 hS (fun hp k1 k2 k3 k4 k5 => hR hp m A k1 k2 ((bFr_sub F1 (by decide)).trans (bFr_sub k3 (by decide))) k4 (by rw [show tT hp = tT hp1 from funext fun u => funext fun v => r_fr k3 rfl, show rN hp 67 0 = rN hp1 67 0 from r_fr k3 rfl]; exact hS) k5 (Lst_W (W := wQd) (by decide) k3 hL1)) 36 _ _ _ _ _ hp6 hH6 (P0_W (W := [(66, 14)]) (by decide) (rU_fr U6 rfl) hP1) (rU_fr U6 (by decide)) (Arr_W (W := [(66, 14)]) (by decide) (rU_fr U6 rfl) hA) ⟨0, by rw [U6.1]; omega, fun q hq => by omega⟩ (by omega) (by omega)
