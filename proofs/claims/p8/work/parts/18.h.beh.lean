/-! ===== ways by hand: what switches would bring (2) ===== -/
theorem rN_out {hp : amH} (hH : bHk 84 bTT hp) {i : Nat} (hi : 229 ≤ i) : rN hp 67 i = 0 := by
  obtain ⟨w, h1, h2, -⟩ := r_row hH (q := 67) (by decide) rfl
  unfold rN bFld
  rw [h1]
  dsimp only
  rw [List.getElem?_eq_none (by rw [List.length_map]; omega)]
theorem row_all {hp hp1 : amH} (hH : bHk 84 bTT hp) (hH1 : bHk 84 bTT hp1) (h : ∀ i, i < 229 → rN hp1 67 i = rN hp 67 i) : ∀ i, rN hp1 67 i = rN hp 67 i := by
  intro i
  rcases Nat.lt_or_ge i 229 with z | z
  · exact h i z
  · rw [rN_out hH z, rN_out hH1 z]
def wQB : List (Nat × Nat) := (67, 999) :: (69, 999) :: (77, 999) :: bLT
theorem QX_back {hp hp1 : amH} {m m1 n : Nat} {A : Nat → Nat × Nat × Nat} (h : QX hp m A n) (hr : ∀ i, rN hp1 67 i = rN hp 67 i) (hL : Lst hp1 m1) (h76 : ∀ i, rN hp1 76 i = rN hp 76 i) (h14 : rN hp1 66 14 = rN hp 66 14) : QX hp1 m A n := by
  obtain ⟨h1, h2, h3, h4, h5⟩ := h
  have te : ∀ u v, tT hp1 u v = tT hp u v := fun u v => hr _
  obtain ⟨em, er⟩ := Lst_uq h1 hL te
  subst em
  refine ⟨hL, ⟨hL.1, fun k hk => ?_⟩, ?_, fun q hq => ?_, h14.trans h5⟩
  · obtain ⟨r1, r2, r3, r4⟩ := er k hk
    obtain ⟨a1, a2, a3, a4⟩ := h2.2 k hk
    exact ⟨r1.trans a1, r2.trans a2, r3.trans a3, r4.trans a4⟩
  · rw [show tT hp1 = tT hp from funext fun u => funext fun v => te u v, hr]
    exact h3
  · obtain ⟨i, j, k, l, g1, g2, g3, g4, g5, g6, g7, g8, g9⟩ := h4 q hq
    exact ⟨i, j, k, l, g1, g2, g3, g4, (h76 _).trans g5, (h76 _).trans g6, (h76 _).trans g7, (h76 _).trans g8, g9⟩
theorem k_qb {d : Nat} {hp : amH} {R : xQ} {q : Int32} {m n : Nat} {A : Nat → Nat × Nat × Nat} (hH : bHk 84 bTT hp) (hP : P0 hp) (hX : QX hp m A n) (q0 : 0 ≤ q.toInt) (qn : q.toInt < (n : Int)) (hR : ∀ (z : Int32) hp1, bHk 84 bTT hp1 → P0 hp1 → bFr wQB hp hp1 → QX hp1 m A n → R (.inl (some (.int z))) hp1) : xK (d + 3) 223 [.ref 66, .int q] hp R := by
  refine xin (M := am_m223) rfl rfl rfl ?_
  refine xald 1 ⟨u223, _, rfl⟩ rfl rfl ?_
  refine xcall 4 [.ref 66] [] hH ⟨u223, _, rfl⟩ rfl rfl rfl rfl rfl (k_begin hH hP (fun hp1 hH1 hP1 F1 E1 => ⟨_, rfl, ?_⟩))
  have e1 : rN hp1 67 0 = rN hp 67 0 := r_fr F1 rfl
  have t1 : ∀ u v, tT hp1 u v = tT hp u v := fun u v => r_fr F1 rfl
  refine xald 5 ⟨u223, _, rfl⟩ rfl rfl ?_
  refine xild 6 ⟨u223, _, rfl⟩ rfl rfl ?_
  refine xcall 9 [.ref 66, .int _] [] hH1 ⟨u223, _, rfl⟩ rfl rfl rfl rfl rfl (k_swq hH1 hP1 (QX_W (W := [(69, 999)]) (by decide) F1 hX) (by omega) (by omega) (fun hp6 hH6 hP6 F6 => ⟨_, rfl, ?_⟩))
  refine xald 10 ⟨u223, _, rfl⟩ rfl rfl ?_
  refine xcall 13 [.ref 66] [] hH6 ⟨u223, _, rfl⟩ rfl rfl rfl rfl rfl (k_qcn hH6 hP6 (fun z10 hp10 hH10 hP10 F10 => ⟨_, rfl, ?_⟩))
  have e10 : rN hp10 67 0 = rN hp6 67 0 := r_fr F10 rfl
  have t10 : ∀ u v, tT hp10 u v = tT hp6 u v := fun u v => r_fr F10 rfl
  refine xist 14 ⟨u223, _, rfl⟩ rfl rfl ?_
  have f69 : ∀ i, rN hp10 69 i = rN hp1 69 i := fun i => (r_fr F10 rfl).trans (r_fr F6 rfl)
  have hV69 : Vf (rN hp10 69) := Vf_eq (r := rN hp 67) (fun i hi => (f69 i).trans (E1 i hi)) hP.1
  refine xald 15 ⟨u223, _, rfl⟩ rfl rfl ?_
  refine xcall 18 [.ref 66] [] hH10 ⟨u223, _, rfl⟩ rfl rfl rfl rfl rfl (k_ends hH10 hP10 hV69 (fun hp15 hH15 hP15 F15 E15 => ⟨_, rfl, ?_⟩))
  have r15 : ∀ i, rN hp15 67 i = rN hp 67 i := row_all hH hH15 (fun i hi => by rw [E15 i hi, f69, E1 i hi])
  refine xald 19 ⟨u223, _, rfl⟩ rfl rfl ?_
  refine xcall 22 [.ref 66] [] hH15 ⟨u223, _, rfl⟩ rfl rfl rfl rfl rfl (k_lst hH15 hP15 (fun hp19 m1 hH19 hP19 F19 hL19 => ⟨_, rfl, ?_⟩))
  have e19 : rN hp19 67 0 = rN hp15 67 0 := r_fr F19 rfl
  have t19 : ∀ u v, tT hp19 u v = tT hp15 u v := fun u v => r_fr F19 rfl
  refine xild 23 ⟨u223, _, rfl⟩ rfl rfl ?_
  have e76 : ∀ i, rN hp19 76 i = rN hp 76 i := fun i => by
    rw [show rN hp19 76 i = rN hp15 76 i from r_fr F19 rfl, show rN hp15 76 i = rN hp10 76 i from r_fr F15 rfl, show rN hp10 76 i = rN hp6 76 i from r_fr F10 rfl, show rN hp6 76 i = rN hp1 76 i from r_fr F6 rfl]
    exact r_fr F1 rfl
  have e14 : rN hp19 66 14 = rN hp 66 14 := by
    rw [show rN hp19 66 14 = rN hp15 66 14 from r_fr F19 rfl, show rN hp15 66 14 = rN hp10 66 14 from r_fr F15 rfl, show rN hp10 66 14 = rN hp6 66 14 from r_fr F10 rfl, show rN hp6 66 14 = rN hp1 66 14 from r_fr F6 rfl]
    exact r_fr F1 rfl
  exact xret ⟨u223, _, rfl⟩ rfl (hR _ hp19 hH19 hP19 ((bFr_sub F1 (by decide)).trans ((bFr_sub F6 (by decide)).trans ((bFr_sub F10 (by decide)).trans ((bFr_sub F15 (by decide)).trans (bFr_sub F19 (by decide)))))) (QX_back hX (fun i => (r_fr F19 rfl).trans (r15 i)) hL19 e76 e14))
def wBQ : List (Nat × Nat) := (66, 14) :: (67, 999) :: (69, 999) :: (76, 999) :: (77, 999) :: bLT
theorem l224 {d : Nat} {hp0 : amH} {R : xQ} {g : Int32} {m n : Nat} {A : Nat → Nat × Nat × Nat} (n200 : n ≤ 200) (hR : ∀ (z : Int32) hp, bHk 84 bTT hp → P0 hp → bFr wBQ hp0 hp → QX hp m A n → (z.toInt = -1 ∨ (0 ≤ z.toInt ∧ z.toInt < (n : Int))) → R (.inl (some (.int z))) hp) :
    ∀ (jj : Nat) (b v q : Int32) (t : Option Value) hp, bHk 84 bTT hp → P0 hp → bFr wBQ hp0 hp → QX hp m A n → (b.toInt = -1 ∨ (0 ≤ b.toInt ∧ b.toInt < (n : Int))) → q.toInt + (jj : Int) = 201 → 0 ≤ q.toInt → xV (d + 4) am_m224 11 [some (.ref 66), some (.int g), some (.int b), some (.int v), some (.int q), t] [] hp R := by
  intro jj
  induction jj using Nat.strongRecOn with
  | ind jj ih =>
    intro b v q t hp hH hP hF hX hb hjj q0
    have hn := hX.2.2.2.2
    have j61 : q.toInt < (n : Int) → ∀ (b1 v1 t1 : Int32) hp1, bHk 84 bTT hp1 → P0 hp1 → bFr wBQ hp0 hp1 → QX hp1 m A n → (b1.toInt = -1 ∨ (0 ≤ b1.toInt ∧ b1.toInt < (n : Int))) → xV (d + 4) am_m224 61 [some (.ref 66), some (.int g), some (.int b1), some (.int v1), some (.int q), some (.int t1)] [] hp1 R := by
      intro qn b1 v1 t1 hp1 hH1 hP1 hF1 hX1 hb1
      refine xinc 64 (1) ⟨u224, _, rfl⟩ rfl rfl rfl (by decide) (by omega) (by omega) (fun z126 h126 => ?_)
      refine xgoto ⟨u224, _, rfl⟩ ?_
      exact ih (jj - 1) (by omega) _ _ _ _ hp1 hH1 hP1 hF1 hX1 hb1 (by omega) (by omega)
    refine xild2 13 ⟨u224, _, rfl⟩ rfl rfl ?_
    refine xald 14 ⟨u224, _, rfl⟩ rfl rfl ?_
    refine xgetI 17 hH ⟨u224, _, rfl⟩ rfl rfl (fun z14 h14 => ?_)
    refine xcmp_ge 20 ⟨u224, _, rfl⟩ rfl (fun c17 => ?_) (fun c17 => ?_)
    · refine xild 68 ⟨u224, _, rfl⟩ rfl rfl ?_
      exact xret ⟨u224, _, rfl⟩ rfl (hR _ hp hH hP hF hX (by omega))
    · refine xald 21 ⟨u224, _, rfl⟩ rfl rfl ?_
      refine xild2 23 ⟨u224, _, rfl⟩ rfl rfl ?_
      refine xcall 26 [.ref 66, .int _] [] hH ⟨u224, _, rfl⟩ rfl rfl rfl rfl rfl (k_qb hH hP hX (by omega) (by omega) (fun z23 hp23 hH23 hP23 F23 hX23 => ⟨_, rfl, ?_⟩))
      refine xist2 28 ⟨u224, _, rfl⟩ rfl rfl ?_
      refine xild 29 ⟨u224, _, rfl⟩ rfl rfl ?_
      refine xcst 30 (-1) ⟨u224, _, rfl⟩ rfl (by decide) (fun z29 h29 => ?_)
      refine xcmp_eq 33 ⟨u224, _, rfl⟩ rfl (fun c30 => ?_) (fun c30 => ?_)
      · refine xild2 57 ⟨u224, _, rfl⟩ rfl rfl ?_
        refine xist 58 ⟨u224, _, rfl⟩ rfl rfl ?_
        refine xild2 60 ⟨u224, _, rfl⟩ rfl rfl ?_
        refine xist 61 ⟨u224, _, rfl⟩ rfl rfl ?_
        exact j61 (by omega) _ _ _ hp23 hH23 hP23 (hF.trans (bFr_sub F23 (by decide))) hX23 (by omega)
      · refine xild 34 ⟨u224, _, rfl⟩ rfl rfl ?_
        refine xif_eq 37 ⟨u224, _, rfl⟩ rfl (fun c34 => ?_) (fun c34 => ?_)
        · refine xild2 48 ⟨u224, _, rfl⟩ rfl rfl ?_
          refine xild 49 ⟨u224, _, rfl⟩ rfl rfl ?_
          refine xcmp_lt 52 ⟨u224, _, rfl⟩ rfl (fun c49 => ?_) (fun c49 => ?_)
          · refine xild2 57 ⟨u224, _, rfl⟩ rfl rfl ?_
            refine xist 58 ⟨u224, _, rfl⟩ rfl rfl ?_
            refine xild2 60 ⟨u224, _, rfl⟩ rfl rfl ?_
            refine xist 61 ⟨u224, _, rfl⟩ rfl rfl ?_
            exact j61 (by omega) _ _ _ hp23 hH23 hP23 (hF.trans (bFr_sub F23 (by decide))) hX23 (by omega)
          · refine xgoto ⟨u224, _, rfl⟩ ?_
            exact j61 (by omega) _ _ _ hp23 hH23 hP23 (hF.trans (bFr_sub F23 (by decide))) hX23 (by omega)
        · refine xild2 39 ⟨u224, _, rfl⟩ rfl rfl ?_
          refine xild 40 ⟨u224, _, rfl⟩ rfl rfl ?_
          refine xcmp_gt 43 ⟨u224, _, rfl⟩ rfl (fun c40 => ?_) (fun c40 => ?_)
          · refine xild2 57 ⟨u224, _, rfl⟩ rfl rfl ?_
            refine xist 58 ⟨u224, _, rfl⟩ rfl rfl ?_
            refine xild2 60 ⟨u224, _, rfl⟩ rfl rfl ?_
            refine xist 61 ⟨u224, _, rfl⟩ rfl rfl ?_
            exact j61 (by omega) _ _ _ hp23 hH23 hP23 (hF.trans (bFr_sub F23 (by decide))) hX23 (by omega)
          · refine xgoto ⟨u224, _, rfl⟩ ?_
            exact j61 (by omega) _ _ _ hp23 hH23 hP23 (hF.trans (bFr_sub F23 (by decide))) hX23 (by omega)
theorem k_bq {d : Nat} {hp : amH} {R : xQ} {g : Int32} (hH : bHk 84 bTT hp) (hP : P0 hp) (hR : ∀ (z : Int32) hp1 (m : Nat) (A : Nat → Nat × Nat × Nat) (n : Nat), bHk 84 bTT hp1 → P0 hp1 → bFr wBQ hp hp1 → QX hp1 m A n → (z.toInt = -1 ∨ (0 ≤ z.toInt ∧ z.toInt < (n : Int))) → R (.inl (some (.int z))) hp1) : xK (d + 4) 224 [.ref 66, .int g] hp R := by
  refine xin (M := am_m224) rfl rfl rfl ?_
  refine xald 1 ⟨u224, _, rfl⟩ rfl rfl ?_
  refine xcall 4 [.ref 66] [] hH ⟨u224, _, rfl⟩ rfl rfl rfl rfl rfl (k_lqx hH hP (fun hp1 m A n hH1 hP1 F1 hX1 => ⟨_, rfl, ?_⟩))
  have e1 : rN hp1 67 0 = rN hp 67 0 := r_fr F1 rfl
  have t1 : ∀ u v, tT hp1 u v = tT hp u v := fun u v => r_fr F1 rfl
  refine xcst 5 (-1) ⟨u224, _, rfl⟩ rfl (by decide) (fun z4 h4 => ?_)
  refine xist 6 ⟨u224, _, rfl⟩ rfl rfl ?_
  refine xcst 7 (0) ⟨u224, _, rfl⟩ rfl (by decide) (fun z6 h6 => ?_)
  refine xist 8 ⟨u224, _, rfl⟩ rfl rfl ?_
  refine xcst 9 (0) ⟨u224, _, rfl⟩ rfl (by decide) (fun z8 h8 => ?_)
  refine xist2 11 ⟨u224, _, rfl⟩ rfl rfl ?_
  have n200 := rb_fld hH1 (f := 14) (lo := 2147483648) (hi := 2147483848) rfl
  have hn := hX1.2.2.2.2
  refine xpad 1 ?_
  exact l224 (by omega) (fun z hp2 k1 k2 k3 k4 k5 => hR z hp2 m A n k1 k2 ((bFr_sub F1 (by decide)).trans k3) k4 k5) 201 _ _ _ _ hp1 hH1 hP1 (bFr.refl _ _) hX1 (by omega) (by omega) (by omega)
def wNQ : List (Nat × Nat) := (66, 7) :: wLQ
theorem k_noq {d : Nat} {hp : amH} {R : xQ} {q : Int32} (hH : bHk 84 bTT hp) (hP : P0 hp) (hR : ∀ (z : Int32) hp1, bHk 84 bTT hp1 → P0 hp1 → bFr wNQ hp hp1 → (z.toInt = 1 ∨ (z.toInt = 0 ∧ ∃ m A n, QX hp1 m A n ∧ 0 ≤ q.toInt ∧ q.toInt < (n : Int))) → R (.inl (some (.int z))) hp1) : xK (d + 3) 258 [.ref 66, .int q] hp R := by
  refine xin (M := am_m258) rfl rfl rfl ?_
  have G : bFr wNQ hp hp := bFr.refl _ _
  refine xald 1 ⟨u258, _, rfl⟩ rfl rfl ?_
  refine xcst 2 (0) ⟨u258, _, rfl⟩ rfl (by decide) (fun z1 h1 => ?_)
  refine xputI 5 hH ⟨u258, _, rfl⟩ rfl rfl ⟨rfl, rfl⟩ (by omega) (by omega) (fun hp2 hH2 U2 => ?_)
  have G2 := G.trans (rU_fr U2 (W := wNQ) (by decide))
  have hP2 := P0_W (W := [(66, 7)]) (by decide) (rU_fr U2 rfl) hP
  have e2 : rN hp2 67 0 = rN hp 67 0 := rU_ne U2 (by omega)
  refine xald 6 ⟨u258, _, rfl⟩ rfl rfl ?_
  refine xcall 9 [.ref 66] [] hH2 ⟨u258, _, rfl⟩ rfl rfl rfl rfl rfl (k_lqx hH2 hP2 (fun hp6 m A n hH6 hP6 F6 hX6 => ⟨_, rfl, ?_⟩))
  have G6 := G2.trans (bFr_sub (W1 := wNQ) F6 (by decide))
  have e6 : rN hp6 67 0 = rN hp2 67 0 := r_fr F6 rfl
  have t6 : ∀ u v, tT hp6 u v = tT hp2 u v := fun u v => r_fr F6 rfl
  refine xald 10 ⟨u258, _, rfl⟩ rfl rfl ?_
  refine xild 11 ⟨u258, _, rfl⟩ rfl rfl ?_
  refine xcst 12 (0) ⟨u258, _, rfl⟩ rfl (by decide) (fun z11 h11 => ?_)
  refine xald 13 ⟨u258, _, rfl⟩ rfl rfl ?_
  refine xgetI 16 hH6 ⟨u258, _, rfl⟩ rfl rfl (fun z13 h13 => ?_)
  refine xcst 17 (1) ⟨u258, _, rfl⟩ rfl (by decide) (fun z16 h16 => ?_)
  have hm1 := hX6.2.2.2.2
  have hb14 := rb_fld hH6 (f := 14) (lo := 2147483648) (hi := 2147483848) rfl
  refine xsub 18 _ ⟨u258, _, rfl⟩ rfl rfl (by omega) (by omega) (fun z17 h17 => ?_)
  refine xcallS 21 [.int _, .int _, .int _] [.ref 66] hH6 ⟨u258, _, rfl⟩ rfl rfl rfl rfl rfl (k_inr (fun z18 h18 => ⟨_, rfl, ?_⟩))
  refine xif_ne 24 ⟨u258, _, rfl⟩ rfl (fun c21 => ?_) (fun c21 => ?_)
  · refine xcst 29 (0) ⟨u258, _, rfl⟩ rfl (by decide) (fun z28 h28 => ?_)
    refine xcst 30 (1) ⟨u258, _, rfl⟩ rfl (by decide) (fun z29 h29 => ?_)
    refine xcall 33 [.ref 66, .int _, .int _] [] hH6 ⟨u258, _, rfl⟩ rfl rfl rfl rfl rfl (k_fails2 hH6 hP6 (by omega) (fun hp30 hH30 hP30 F30 => ⟨_, rfl, ?_⟩))
    have G30 := G6.trans (bFr_sub (W1 := wNQ) F30 (by decide))
    have e30 : rN hp30 67 0 = rN hp6 67 0 := r_fr F30 rfl
    have t30 : ∀ u v, tT hp30 u v = tT hp6 u v := fun u v => r_fr F30 rfl
    exact xretB ⟨u258, _, rfl⟩ rfl (by omega) (hR _ _ hH30 hP30 G30 (Or.inr ⟨h28, m, A, n, QX_W (W := [(66, 7)]) (by decide) F30 hX6, by omega, by omega⟩))
  · refine xcst 25 (1) ⟨u258, _, rfl⟩ rfl (by decide) (fun z24 h24 => ?_)
    refine xgoto ⟨u258, _, rfl⟩ ?_
    refine xcst 30 (1) ⟨u258, _, rfl⟩ rfl (by decide) (fun z29 h29 => ?_)
    refine xcall 33 [.ref 66, .int _, .int _] [] hH6 ⟨u258, _, rfl⟩ rfl rfl rfl rfl rfl (k_fails2 hH6 hP6 (by omega) (fun hp30 hH30 hP30 F30 => ⟨_, rfl, ?_⟩))
    have G30 := G6.trans (bFr_sub (W1 := wNQ) F30 (by decide))
    have e30 : rN hp30 67 0 = rN hp6 67 0 := r_fr F30 rfl
    have t30 : ∀ u v, tT hp30 u v = tT hp6 u v := fun u v => r_fr F30 rfl
    exact xretB ⟨u258, _, rfl⟩ rfl (by omega) (hR _ _ hH30 hP30 G30 (Or.inl h24))
theorem k_qn {d : Nat} {hp : amH} {R : xQ} (hH : bHk 84 bTT hp) (hP : P0 hp) (hR : ∀ (z : Int32) hp1, bHk 84 bTT hp1 → P0 hp1 → bFr wLQ hp hp1 → R (.inl (some (.int z))) hp1) : xK (d + 3) 261 [.ref 66] hp R := by
  refine xin (M := am_m261) rfl rfl rfl ?_
  refine xald 1 ⟨u261, _, rfl⟩ rfl rfl ?_
  refine xcall 4 [.ref 66] [] hH ⟨u261, _, rfl⟩ rfl rfl rfl rfl rfl (k_lqx hH hP (fun hp1 m A n hH1 hP1 F1 hX1 => ⟨_, rfl, ?_⟩))
  have e1 : rN hp1 67 0 = rN hp 67 0 := r_fr F1 rfl
  have t1 : ∀ u v, tT hp1 u v = tT hp u v := fun u v => r_fr F1 rfl
  refine xald 5 ⟨u261, _, rfl⟩ rfl rfl ?_
  refine xgetI 8 hH1 ⟨u261, _, rfl⟩ rfl rfl (fun z5 h5 => ?_)
  exact xret ⟨u261, _, rfl⟩ rfl (hR _ hp1 hH1 hP1 F1)
theorem p292_s : bSem amGG P0 84 bTT 292 (sPub 1 9) := by
  refine pub1 (N := am_m292) rfl (fun x hp hH hP => ?_)
  refine xin (M := am_m292) rfl rfl rfl ?_
  have G := bFr.refl wM hp
  have q1 := hP.1.1
  have q2 := hP.1.2.1
  refine xald 1 ⟨u292, _, rfl⟩ rfl rfl ?_
  refine xild 2 ⟨u292, _, rfl⟩ rfl rfl ?_
  refine xcall 5 [.ref 66, .int _] [] hH ⟨u292, _, rfl⟩ rfl rfl rfl rfl rfl (k_noq hH hP (fun z2 hp2 hH2 hP2 F2 h2 => ⟨_, rfl, ?_⟩))
  have G2 := G.trans (bFr_sub (W1 := wM) F2 (by decide))
  have e2 : rN hp2 67 0 = rN hp 67 0 := r_fr F2 rfl
  have t2 : ∀ u v, tT hp2 u v = tT hp u v := fun u v => r_fr F2 rfl
  refine xif_eq 8 ⟨u292, _, rfl⟩ rfl (fun c5 => ?_) (fun c5 => ?_)
  · obtain ⟨m, A, n, X0, Q0, Q1⟩ : ∃ m A n, QX hp2 m A n ∧ 0 ≤ x.toInt ∧ x.toInt < (n : Int) := by rcases h2 with g | g <;> first | exact g.2 | (exfalso; omega)
    refine xald 11 ⟨u292, _, rfl⟩ rfl rfl ?_
    refine xcall 14 [.ref 66] [] hH2 ⟨u292, _, rfl⟩ rfl rfl rfl rfl rfl (k_rem hH2 hP2 (fun hp11 hH11 hP11 F11 => ⟨_, rfl, ?_⟩))
    have G11 := G2.trans (bFr_sub (W1 := wM) F11 (by decide))
    have e11 : rN hp11 67 0 = rN hp2 67 0 := r_fr F11 rfl
    have t11 : ∀ u v, tT hp11 u v = tT hp2 u v := fun u v => r_fr F11 rfl
    refine xald 15 ⟨u292, _, rfl⟩ rfl rfl ?_
    refine xild 16 ⟨u292, _, rfl⟩ rfl rfl ?_
    refine xcall 19 [.ref 66, .int _] [] hH11 ⟨u292, _, rfl⟩ rfl rfl rfl rfl rfl (k_swq hH11 hP11 (QX_W (W := wRem) (by decide) F11 X0) (by omega) (by omega) (fun hp16 hH16 hP16 F16 => ⟨_, rfl, ?_⟩))
    have G16 := G11.trans (bFr_sub (W1 := wM) F16 (by decide))
    refine xald 20 ⟨u292, _, rfl⟩ rfl rfl ?_
    refine xcall 23 [.ref 66] [] hH16 ⟨u292, _, rfl⟩ rfl rfl rfl rfl rfl (k_qn hH16 hP16 (fun z20 hp20 hH20 hP20 F20 => ⟨_, rfl, ?_⟩))
    have G20 := G16.trans (bFr_sub (W1 := wM) F20 (by decide))
    have e20 : rN hp20 67 0 = rN hp16 67 0 := r_fr F20 rfl
    have t20 : ∀ u v, tT hp20 u v = tT hp16 u v := fun u v => r_fr F20 rfl
    exact xret ⟨u292, _, rfl⟩ rfl ⟨⟨_, rfl⟩, hH20, hP20, G20⟩
  · refine xcst 9 (0) ⟨u292, _, rfl⟩ rfl (by decide) (fun z8 h8 => ?_)
    exact xret ⟨u292, _, rfl⟩ rfl ⟨⟨_, rfl⟩, hH2, hP2, G2⟩
theorem p293_s : bSem amGG P0 84 bTT 293 (sPub 1 9) := by
  refine pub1 (N := am_m293) rfl (fun x hp hH hP => ?_)
  refine xin (M := am_m293) rfl rfl rfl ?_
  have G := bFr.refl wM hp
  have q1 := hP.1.1
  have q2 := hP.1.2.1
  refine xald 1 ⟨u293, _, rfl⟩ rfl rfl ?_
  refine xild 2 ⟨u293, _, rfl⟩ rfl rfl ?_
  refine xcall 5 [.ref 66, .int _] [] hH ⟨u293, _, rfl⟩ rfl rfl rfl rfl rfl (k_noq hH hP (fun z2 hp2 hH2 hP2 F2 h2 => ⟨_, rfl, ?_⟩))
  have G2 := G.trans (bFr_sub (W1 := wM) F2 (by decide))
  have e2 : rN hp2 67 0 = rN hp 67 0 := r_fr F2 rfl
  have t2 : ∀ u v, tT hp2 u v = tT hp u v := fun u v => r_fr F2 rfl
  refine xif_eq 8 ⟨u293, _, rfl⟩ rfl (fun c5 => ?_) (fun c5 => ?_)
  · obtain ⟨m, A, n, X0, Q0, Q1⟩ : ∃ m A n, QX hp2 m A n ∧ 0 ≤ x.toInt ∧ x.toInt < (n : Int) := by rcases h2 with g | g <;> first | exact g.2 | (exfalso; omega)
    refine xald 13 ⟨u293, _, rfl⟩ rfl rfl ?_
    refine xild 14 ⟨u293, _, rfl⟩ rfl rfl ?_
    refine xcall 17 [.ref 66, .int _] [] hH2 ⟨u293, _, rfl⟩ rfl rfl rfl rfl rfl (k_qb hH2 hP2 X0 (by omega) (by omega) (fun z14 hp14 hH14 hP14 F14 hX14 => ⟨_, rfl, ?_⟩))
    have G14 := G2.trans (bFr_sub (W1 := wM) F14 (by decide))
    exact xret ⟨u293, _, rfl⟩ rfl ⟨⟨_, rfl⟩, hH14, hP14, G14⟩
  · refine xcst 9 (0) ⟨u293, _, rfl⟩ rfl (by decide) (fun z8 h8 => ?_)
    refine xgoto ⟨u293, _, rfl⟩ ?_
    exact xret ⟨u293, _, rfl⟩ rfl ⟨⟨_, rfl⟩, hH2, hP2, G2⟩
theorem p294_s : bSem amGG P0 84 bTT 294 (sPub 1 9) := by
  refine pub1 (N := am_m294) rfl (fun x hp hH hP => ?_)
  refine xin (M := am_m294) rfl rfl rfl ?_
  have G := bFr.refl wM hp
  have q1 := hP.1.1
  have q2 := hP.1.2.1
  refine xald 1 ⟨u294, _, rfl⟩ rfl rfl ?_
  refine xcst 2 (0) ⟨u294, _, rfl⟩ rfl (by decide) (fun z1 h1 => ?_)
  refine xputI 5 hH ⟨u294, _, rfl⟩ rfl rfl ⟨rfl, rfl⟩ (by omega) (by omega) (fun hp2 hH2 U2 => ?_)
  have G2 := G.trans (rU_fr U2 (W := wM) (by decide))
  have hP2 := P0_W (W := [(66, 7)]) (by decide) (rU_fr U2 rfl) hP
  have e2 : rN hp2 67 0 = rN hp 67 0 := rU_ne U2 (by omega)
  refine xald 6 ⟨u294, _, rfl⟩ rfl rfl ?_
  refine xild 7 ⟨u294, _, rfl⟩ rfl rfl ?_
  refine xcall 10 [.ref 66, .int _] [] hH2 ⟨u294, _, rfl⟩ rfl rfl rfl rfl rfl (k_bq hH2 hP2 (fun z7 hp7 m A n hH7 hP7 F7 hX7 h7 => ⟨_, rfl, ?_⟩))
  have G7 := G2.trans (bFr_sub (W1 := wM) F7 (by decide))
  exact xret ⟨u294, _, rfl⟩ rfl ⟨⟨_, rfl⟩, hH7, hP7, G7⟩
