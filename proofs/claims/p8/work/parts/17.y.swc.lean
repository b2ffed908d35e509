/-! ===== ways by hand: cycles switched ===== -/
theorem Vf_ne {r s : Nat → Int} (h : ∀ i, i < 229 → (i = 0 ∨ 4 ≤ i) → s i = r i) (hr : Vf r) : Vf s := by
  obtain ⟨h1, h2, h3⟩ := hr
  have h0 := h 0 (by omega) (by omega)
  refine ⟨by omega, by omega, fun a b ha hb => ?_⟩
  rcases h3 a b ha hb with g | ⟨c, g1, g2, g3, g4, g5, g6, g7, g8, g9⟩
  · exact Or.inl (by rw [h _ (by omega) (by omega)]; exact g)
  · have hc : c < 15 := by omega
    exact Or.inr ⟨c, by rw [h _ (by omega) (by omega)]; exact g1, by omega, by omega, by omega, g5, g6, g7, by rw [h _ (by omega) (by omega)]; exact g8, by rw [h _ (by omega) (by omega)]; exact g9⟩
theorem P0_cnt {hp hp1 : amH} {i : Nat} {m : Int} (hi : 1 ≤ i) (hi3 : i ≤ 3) (h : rU hp hp1 67 i m) (hP : P0 hp) : P0 hp1 :=
  P0_67 (rU_fr h (bIn_all (by decide) i)) hP (Vf_ne (fun j _ hj => rU_ne h (by omega)) hP.1)
theorem em_nxt {k r : Nat} (h : k < r) : ((k : Int) + 1) % (r : Int) = if k + 1 = r then 0 else ((k + 1 : Nat) : Int) := by
  split
  · next e =>
    rw [show (k : Int) + 1 = (r : Int) by omega, Int.emod_self]
  · next e => rw [Int.emod_eq_of_lt (by omega) (by omega)]; omega
theorem tk230 {d : Nat} {hp0 : amH} {R : xQ} {T : Nat → Nat → Int} {p : Int} {r A B : Nat} {X : Nat → Nat} {a b : Int32} (p15 : p ≤ 15) (hTr : Trs T p r (tri A B X)) (hSw : Sws p r (tri A B X) (tri B A X)) (hX0 : X r = X 0) (ha : a.toInt = (A : Int)) (hb : b.toInt = (B : Int)) (r1 : 1 ≤ r) (r15 : r ≤ 15) (hQ : ∀ (k : Int32) hp, bHk 84 bTT hp → P0 hp → bFr [(67, 999)] hp0 hp → rN hp 67 0 = p → (rN hp 66 17 = (r : Int) ∧ ∀ i, i < r → rN hp 78 i = (X i : Int)) → Tkn T (tri A B X) r hp → xV (d + 2) am_m230 50 [some (.ref 66), some (.int a), some (.int b), some (.int k)] [] hp R) : ∀ (j : Nat) (k : Int32) hp, bHk 84 bTT hp → P0 hp → bFr [(67, 999)] hp0 hp → rN hp 67 0 = p → (rN hp 66 17 = (r : Int) ∧ ∀ i, i < r → rN hp 78 i = (X i : Int)) → Tkn T (tri A B X) k.toInt.toNat hp → k.toInt + (j : Int) = 16 → 0 ≤ k.toInt → k.toInt ≤ (r : Int) → xV (d + 2) am_m230 2 [some (.ref 66), some (.int a), some (.int b), some (.int k)] [] hp R := by
  intro j
  induction j using Nat.strongRecOn with
  | ind j ih =>
    intro k hp hH hP hF he hrow hT hj k0 k1
    have am := hrow.1
    have eab := ab_or A B k.toInt.toNat
    have eba := ab_or B A k.toInt.toNat
    have jj : k.toInt < (r : Int) → ∀ c : Int32, c.toInt = (ab A B k.toInt.toNat : Int) → xV (d + 2) am_m230 22 [some (.ref 66), some (.int a), some (.int b), some (.int k)] [.int c, .ref 66] hp R := by
      intro hk c hc
      have hx := Trs_x p15 hTr (i := k.toInt.toNat) (by omega) hT
      have hin := hTr.1 k.toInt.toNat (by omega)
      dsimp only [tri] at hin
      refine xald 23 ⟨u230, _, rfl⟩ rfl rfl ?_
      refine xgetR 26 78 hH ⟨u230, _, rfl⟩ rfl rfl ?_
      refine xild 27 ⟨u230, _, rfl⟩ rfl rfl ?_
      refine xiald 28 (k).toInt.toNat hH ⟨u230, _, rfl⟩ rfl (by decide) rfl (by omega) (by omega) (fun z27 h27 => ?_)
      refine xald 29 ⟨u230, _, rfl⟩ rfl rfl ?_
      refine xgetR 32 78 hH ⟨u230, _, rfl⟩ rfl rfl ?_
      refine xild 33 ⟨u230, _, rfl⟩ rfl rfl ?_
      refine xcst 34 (1) ⟨u230, _, rfl⟩ rfl (by decide) (fun z33 h33 => ?_)
      refine xadd 35 _ ⟨u230, _, rfl⟩ rfl rfl (by omega) (by omega) (fun z34 h34 => ?_)
      refine xald 36 ⟨u230, _, rfl⟩ rfl rfl ?_
      refine xgetI 39 hH ⟨u230, _, rfl⟩ rfl rfl (fun z36 h36 => ?_)
      refine xrem 40 _ ⟨u230, _, rfl⟩ rfl (by omega) (by omega) rfl (fun z39 h39 => ?_)
      have e39 : z39.toInt = if k.toInt.toNat + 1 = r then 0 else ((k.toInt.toNat + 1 : Nat) : Int) := by
        rw [h39, show Int32.toInt z34 = (k.toInt.toNat : Int) + 1 by omega, show Int32.toInt z36 = (r : Int) by omega]
        exact em_nxt (by omega)
      have f39 : z39.toInt.toNat < r ∧ 0 ≤ z39.toInt := by split at e39 <;> omega
      refine xiald 41 (z39).toInt.toNat hH ⟨u230, _, rfl⟩ rfl (by decide) rfl (by omega) (by omega) (fun z40 h40 => ?_)
      have v1 : z27.toInt = (X k.toInt.toNat : Int) := by rw [h27, hrow.2 _ (by omega)]
      have v2 : z40.toInt = (X (k.toInt.toNat + 1) : Int) := by
        rw [h40, hrow.2 _ f39.1]
        congr 1
        split at e39
        · next q => rw [show z39.toInt.toNat = 0 by omega, ← hX0, q]
        · rw [show z39.toInt.toNat = k.toInt.toNat + 1 by omega]
      refine xcall 44 [.ref 66, .int _, .int _, .int _] [] hH ⟨u230, _, rfl⟩ rfl rfl rfl rfl rfl (k_take hH hP (by omega) (by omega) (by omega) (by omega) (by
        rw [show c.toInt.toNat = (tri A B X k.toInt.toNat).1 by dsimp only [tri]; omega, show z27.toInt.toNat = (tri A B X k.toInt.toNat).2.1 by dsimp only [tri]; omega, hx]
        dsimp only [tri]
        omega) (by omega) (fun hp41 hH41 hP41 F41 E41 T41 => ⟨_, rfl, ?_⟩))
      have e41 : rN hp41 67 0 = rN hp 67 0 := E41 0 (by omega)
      have T1 := Tkn_s hT (hp1 := hp41) (fun u v hu hv => by
        rw [T41 u v hu hv, show c.toInt.toNat = (tri A B X k.toInt.toNat).1 by dsimp only [tri]; omega, show z27.toInt.toNat = (tri A B X k.toInt.toNat).2.1 by dsimp only [tri]; omega, show z40.toInt.toNat = (tri A B X k.toInt.toNat).2.2 by dsimp only [tri]; omega])
      have row41 : (rN hp41 66 17 = (r : Int) ∧ ∀ i, i < r → rN hp41 78 i = (X i : Int)) := ⟨(r_fr F41 (bIn_ne (by decide))).trans hrow.1, fun i hi => (r_fr F41 (bIn_ne (by decide))).trans (hrow.2 i hi)⟩
      refine xinc 47 (1) ⟨u230, _, rfl⟩ rfl rfl rfl (by decide) (by omega) (by omega) (fun z44 h44 => ?_)
      refine xgoto ⟨u230, _, rfl⟩ ?_
      exact ih (j - 1) (by omega) _ hp41 hH41 hP41 (hF.trans F41) (e41.trans he) row41 (by rw [show k.toInt.toNat + 1 = (k.toInt + 1).toNat by omega] at T1; rwa [show Int32.toInt z44 = k.toInt + 1 by omega]) (by omega) (by omega) (by omega)
    refine xild 3 ⟨u230, _, rfl⟩ rfl rfl ?_
    refine xald 4 ⟨u230, _, rfl⟩ rfl rfl ?_
    refine xgetI 7 hH ⟨u230, _, rfl⟩ rfl rfl (fun z4 h4 => ?_)
    refine xcmp_ge 10 ⟨u230, _, rfl⟩ rfl (fun c7 => ?_) (fun c7 => ?_)
    · exact hQ _ hp hH hP hF he hrow (by rwa [show k.toInt.toNat = r by omega] at hT)
    · refine xald 11 ⟨u230, _, rfl⟩ rfl rfl ?_
      refine xild 12 ⟨u230, _, rfl⟩ rfl rfl ?_
      refine xcst 13 (2) ⟨u230, _, rfl⟩ rfl (by decide) (fun z12 h12 => ?_)
      refine xrem 14 (Int32.toInt k % 2) ⟨u230, _, rfl⟩ rfl (by omega) (by omega) (by rw [h12]) (fun z13 h13 => ?_)
      refine xif_ne 17 ⟨u230, _, rfl⟩ rfl (fun c14 => ?_) (fun c14 => ?_)
      · refine xild 22 ⟨u230, _, rfl⟩ rfl rfl ?_
        exact jj (by omega) _ (by omega)
      · refine xild 18 ⟨u230, _, rfl⟩ rfl rfl ?_
        refine xgoto ⟨u230, _, rfl⟩ ?_
        exact jj (by omega) _ (by omega)
theorem pt230 {d : Nat} {hp0 : amH} {R : xQ} {T : Nat → Nat → Int} {p : Int} {r A B : Nat} {X : Nat → Nat} {a b : Int32} (p15 : p ≤ 15) (hTr : Trs T p r (tri A B X)) (hSw : Sws p r (tri A B X) (tri B A X)) (hX0 : X r = X 0) (ha : a.toInt = (A : Int)) (hb : b.toInt = (B : Int)) (r1 : 1 ≤ r) (r15 : r ≤ 15) (hQ : ∀ (k : Int32) hp, bHk 84 bTT hp → P0 hp → bFr [(67, 999)] hp0 hp → rN hp 67 0 = p → (rN hp 66 17 = (r : Int) ∧ ∀ i, i < r → rN hp 78 i = (X i : Int)) → True → xV (d + 2) am_m230 100 [some (.ref 66), some (.int a), some (.int b), some (.int k)] [] hp R) : ∀ (j : Nat) (k : Int32) hp, bHk 84 bTT hp → P0 hp → bFr [(67, 999)] hp0 hp → rN hp 67 0 = p → (rN hp 66 17 = (r : Int) ∧ ∀ i, i < r → rN hp 78 i = (X i : Int)) → Ptn r (tri A B X) (tri B A X) k.toInt.toNat hp → k.toInt + (j : Int) = 16 → 0 ≤ k.toInt → k.toInt ≤ (r : Int) → xV (d + 2) am_m230 52 [some (.ref 66), some (.int a), some (.int b), some (.int k)] [] hp R := by
  intro j
  induction j using Nat.strongRecOn with
  | ind j ih =>
    intro k hp hH hP hF he hrow hT hj k0 k1
    have am := hrow.1
    have eab := ab_or A B k.toInt.toNat
    have eba := ab_or B A k.toInt.toNat
    have jj : k.toInt < (r : Int) → ∀ c : Int32, c.toInt = (ab B A k.toInt.toNat : Int) → xV (d + 2) am_m230 72 [some (.ref 66), some (.int a), some (.int b), some (.int k)] [.int c, .ref 66] hp R := by
      intro hk c hc
      have hf := Ptn_f p15 hSw (i := k.toInt.toNat) (by omega) hT
      have hin := hSw.1 k.toInt.toNat (by omega)
      dsimp only [tri] at hin
      refine xald 73 ⟨u230, _, rfl⟩ rfl rfl ?_
      refine xgetR 76 78 hH ⟨u230, _, rfl⟩ rfl rfl ?_
      refine xild 77 ⟨u230, _, rfl⟩ rfl rfl ?_
      refine xiald 78 (k).toInt.toNat hH ⟨u230, _, rfl⟩ rfl (by decide) rfl (by omega) (by omega) (fun z77 h77 => ?_)
      refine xald 79 ⟨u230, _, rfl⟩ rfl rfl ?_
      refine xgetR 82 78 hH ⟨u230, _, rfl⟩ rfl rfl ?_
      refine xild 83 ⟨u230, _, rfl⟩ rfl rfl ?_
      refine xcst 84 (1) ⟨u230, _, rfl⟩ rfl (by decide) (fun z83 h83 => ?_)
      refine xadd 85 _ ⟨u230, _, rfl⟩ rfl rfl (by omega) (by omega) (fun z84 h84 => ?_)
      refine xald 86 ⟨u230, _, rfl⟩ rfl rfl ?_
      refine xgetI 89 hH ⟨u230, _, rfl⟩ rfl rfl (fun z86 h86 => ?_)
      refine xrem 90 _ ⟨u230, _, rfl⟩ rfl (by omega) (by omega) rfl (fun z89 h89 => ?_)
      have e89 : z89.toInt = if k.toInt.toNat + 1 = r then 0 else ((k.toInt.toNat + 1 : Nat) : Int) := by
        rw [h89, show Int32.toInt z84 = (k.toInt.toNat : Int) + 1 by omega, show Int32.toInt z86 = (r : Int) by omega]
        exact em_nxt (by omega)
      have f89 : z89.toInt.toNat < r ∧ 0 ≤ z89.toInt := by split at e89 <;> omega
      refine xiald 91 (z89).toInt.toNat hH ⟨u230, _, rfl⟩ rfl (by decide) rfl (by omega) (by omega) (fun z90 h90 => ?_)
      have v1 : z77.toInt = (X k.toInt.toNat : Int) := by rw [h77, hrow.2 _ (by omega)]
      have v2 : z90.toInt = (X (k.toInt.toNat + 1) : Int) := by
        rw [h90, hrow.2 _ f89.1]
        congr 1
        split at e89
        · next q => rw [show z89.toInt.toNat = 0 by omega, ← hX0, q]
        · rw [show z89.toInt.toNat = k.toInt.toNat + 1 by omega]
      refine xcall 94 [.ref 66, .int _, .int _, .int _] [] hH ⟨u230, _, rfl⟩ rfl rfl rfl rfl rfl (k_put hH hP (by omega) (by omega) (by omega) (by omega) (by omega) (by omega) (by omega) (by omega) (by omega) (by
        rw [show c.toInt.toNat = (tri B A X k.toInt.toNat).1 by dsimp only [tri]; omega, show z77.toInt.toNat = (tri B A X k.toInt.toNat).2.1 by dsimp only [tri]; omega, show z90.toInt.toNat = (tri B A X k.toInt.toNat).2.2 by dsimp only [tri]; omega]
        exact hf) (fun hp91 hH91 hP91 F91 E91 T91 => ⟨_, rfl, ?_⟩))
      have e91 : rN hp91 67 0 = rN hp 67 0 := E91 0 (by omega)
      have T1 := Ptn_s hT (hp1 := hp91) (f := fun u v => c.toInt + z77.toInt + z90.toInt - u - v) (fun u v hu hv => by
        rw [T91 u v hu hv, show c.toInt.toNat = (tri B A X k.toInt.toNat).1 by dsimp only [tri]; omega, show z77.toInt.toNat = (tri B A X k.toInt.toNat).2.1 by dsimp only [tri]; omega, show z90.toInt.toNat = (tri B A X k.toInt.toNat).2.2 by dsimp only [tri]; omega])
      have row91 : (rN hp91 66 17 = (r : Int) ∧ ∀ i, i < r → rN hp91 78 i = (X i : Int)) := ⟨(r_fr F91 (bIn_ne (by decide))).trans hrow.1, fun i hi => (r_fr F91 (bIn_ne (by decide))).trans (hrow.2 i hi)⟩
      refine xinc 97 (1) ⟨u230, _, rfl⟩ rfl rfl rfl (by decide) (by omega) (by omega) (fun z94 h94 => ?_)
      refine xgoto ⟨u230, _, rfl⟩ ?_
      exact ih (j - 1) (by omega) _ hp91 hH91 hP91 (hF.trans F91) (e91.trans he) row91 (by rw [show k.toInt.toNat + 1 = (k.toInt + 1).toNat by omega] at T1; rwa [show Int32.toInt z94 = k.toInt + 1 by omega]) (by omega) (by omega) (by omega)
    refine xild 53 ⟨u230, _, rfl⟩ rfl rfl ?_
    refine xald 54 ⟨u230, _, rfl⟩ rfl rfl ?_
    refine xgetI 57 hH ⟨u230, _, rfl⟩ rfl rfl (fun z54 h54 => ?_)
    refine xcmp_ge 60 ⟨u230, _, rfl⟩ rfl (fun c57 => ?_) (fun c57 => ?_)
    · exact hQ _ hp hH hP hF he hrow trivial
    · refine xald 61 ⟨u230, _, rfl⟩ rfl rfl ?_
      refine xild 62 ⟨u230, _, rfl⟩ rfl rfl ?_
      refine xcst 63 (2) ⟨u230, _, rfl⟩ rfl (by decide) (fun z62 h62 => ?_)
      refine xrem 64 (Int32.toInt k % 2) ⟨u230, _, rfl⟩ rfl (by omega) (by omega) (by rw [h62]) (fun z63 h63 => ?_)
      refine xif_ne 67 ⟨u230, _, rfl⟩ rfl (fun c64 => ?_) (fun c64 => ?_)
      · refine xild 72 ⟨u230, _, rfl⟩ rfl rfl ?_
        exact jj (by omega) _ (by omega)
      · refine xild 68 ⟨u230, _, rfl⟩ rfl rfl ?_
        refine xgoto ⟨u230, _, rfl⟩ ?_
        exact jj (by omega) _ (by omega)
theorem e230 {d : Nat} {hp : amH} {R : xQ} {a b k : Int32} (hH : bHk 84 bTT hp) (hP : P0 hp) (hR : ∀ hp1, bHk 84 bTT hp1 → P0 hp1 → bFr [(67, 999)] hp hp1 → R (.inl none) hp1) : xV (d + 2) am_m230 100 [some (.ref 66), some (.int a), some (.int b), some (.int k)] [] hp R := by
  refine xald 101 ⟨u230, _, rfl⟩ rfl rfl ?_
  refine xgetR 104 67 hH ⟨u230, _, rfl⟩ rfl rfl ?_
  refine xcst 105 (2) ⟨u230, _, rfl⟩ rfl (by decide) (fun z104 h104 => ?_)
  refine xdup2 106 ⟨u230, _, rfl⟩ rfl rfl rfl ?_
  refine xiald 107 2 hH ⟨u230, _, rfl⟩ rfl (by decide) rfl (by omega) (by omega) (fun z106 h106 => ?_)
  refine xcst 108 (1) ⟨u230, _, rfl⟩ rfl (by decide) (fun z107 h107 => ?_)
  refine xaddw 109 ⟨u230, _, rfl⟩ rfl (fun z108 => ?_)
  have b1 := aMin z108
  have b2 := aMax z108
  refine xiast 110 2 hH ⟨u230, _, rfl⟩ rfl (by decide) rfl (by omega) (by omega) (by omega) (by omega) (fun hp109 hH109 U109 => ?_)
  refine xald 111 ⟨u230, _, rfl⟩ rfl rfl ?_
  refine xgetR 114 67 hH109 ⟨u230, _, rfl⟩ rfl rfl ?_
  refine xcst 115 (3) ⟨u230, _, rfl⟩ rfl (by decide) (fun z114 h114 => ?_)
  refine xdup2 116 ⟨u230, _, rfl⟩ rfl rfl rfl ?_
  refine xiald 117 3 hH109 ⟨u230, _, rfl⟩ rfl (by decide) rfl (by omega) (by omega) (fun z116 h116 => ?_)
  refine xald 118 ⟨u230, _, rfl⟩ rfl rfl ?_
  refine xgetI 121 hH109 ⟨u230, _, rfl⟩ rfl rfl (fun z118 h118 => ?_)
  refine xaddw 122 ⟨u230, _, rfl⟩ rfl (fun z121 => ?_)
  have b3 := aMin z121
  have b4 := aMax z121
  refine xiast 123 3 hH109 ⟨u230, _, rfl⟩ rfl (by decide) rfl (by omega) (by omega) (by omega) (by omega) (fun hp122 hH122 U122 => ?_)
  exact xretV ⟨u230, _, rfl⟩ rfl (hR hp122 hH122 (P0_cnt (by omega) (by omega) U122 (P0_cnt (by omega) (by omega) U109 hP)) ((rU_fr U109 (bIn_all (by decide) 2)).trans (rU_fr U122 (bIn_all (by decide) 3))))
theorem k_swc {d : Nat} {hp : amH} {R : xQ} {a b : Int32} (hH : bHk 84 bTT hp) (hP : P0 hp) (a0 : 0 ≤ a.toInt) (b0 : 0 ≤ b.toInt) (hC0 : CyOk hp a.toInt.toNat b.toInt.toNat) (hR : ∀ hp1, bHk 84 bTT hp1 → P0 hp1 → bFr [(67, 999)] hp hp1 → R (.inl none) hp1) : xK (d + 2) 230 [.ref 66, .int a, .int b] hp R := by
  obtain ⟨c1, c2, c3, x, c4, c5, c6, c7, r, hC, hO⟩ := hC0
  have p15 := hP.1.2.1
  have hTr := cy_Trs hP.1 c1 c2 c3 c4 c5 c6 c7 hC
  have hSw := cy_Sws hP.1 c1 c2 c3 c4 c5 c6 c7 hC
  have hX0 : wS hp a.toInt.toNat b.toInt.toNat x r = wS hp a.toInt.toNat b.toInt.toNat x 0 := hC.2.2.2.1
  have ha2 : a.toInt = (a.toInt.toNat : Int) := by omega
  have hb2 : b.toInt = (b.toInt.toNat : Int) := by omega
  refine xin (M := am_m230) rfl rfl rfl ?_
  refine xcst 1 (0) ⟨u230, _, rfl⟩ rfl (by decide) (fun z0 h0 => ?_)
  refine xist 2 ⟨u230, _, rfl⟩ rfl rfl ?_
  refine tk230 p15 hTr hSw hX0 ha2 hb2 hC.1 hC.2.1 (fun k1 hp1 k2 k3 k4 k5 k6 k7 => ?_) 16 _ hp hH hP (bFr.refl _ _) rfl hO (fun u v hu hv => ⟨fun i hi => absurd hi (by omega), fun _ => rfl⟩) (by omega) (by omega) (by omega)
  refine xcst 51 (0) ⟨u230, _, rfl⟩ rfl (by decide) (fun z50 h50 => ?_)
  refine xist 52 ⟨u230, _, rfl⟩ rfl rfl ?_
  exact pt230 p15 hTr hSw hX0 ha2 hb2 hC.1 hC.2.1 (fun k1 hp2 l2 l3 l4 l5 l6 _ => e230 l2 l3 (fun hp3 m1 m2 m3 => hR hp3 m1 m2 ((k4.trans l4).trans m3))) 16 _ hp1 k2 k3 (bFr.refl _ _) k5 k6 (by rw [show Int32.toInt z50 = 0 by omega]; exact Ptn_0 k7) (by omega) (by omega) (by omega)
theorem p300_s : bSem amGG P0 84 bTT 300 (sPub 3 9) := by
  refine pub3 (N := am_m300) rfl (fun x y z hp hH hP => ?_)
  refine xin (M := am_m300) rfl rfl rfl ?_
  have G := bFr.refl wM hp
  have q1 := hP.1.1
  have q2 := hP.1.2.1
  refine xald 1 ⟨u300, _, rfl⟩ rfl rfl ?_
  refine xild 2 ⟨u300, _, rfl⟩ rfl rfl ?_
  refine xild 3 ⟨u300, _, rfl⟩ rfl rfl ?_
  refine xild 4 ⟨u300, _, rfl⟩ rfl rfl ?_
  refine xcall 7 [.ref 66, .int _, .int _, .int _] [] hH ⟨u300, _, rfl⟩ rfl rfl rfl rfl rfl (k_nocy hH hP (fun z4 hp4 hH4 hP4 F4 h4 => ⟨_, rfl, ?_⟩))
  have G4 := G.trans (bFr_sub (W1 := wM) F4 (by decide))
  have e4 : rN hp4 67 0 = rN hp 67 0 := r_fr F4 rfl
  have t4 : ∀ u v, tT hp4 u v = tT hp u v := fun u v => r_fr F4 rfl
  refine xif_eq 10 ⟨u300, _, rfl⟩ rfl (fun c7 => ?_) (fun c7 => ?_)
  · obtain ⟨A0, B0, C0⟩ : 0 ≤ x.toInt ∧ 0 ≤ y.toInt ∧ CyOk hp4 x.toInt.toNat y.toInt.toNat := by rcases h4 with g | g <;> first | exact g.2 | (exfalso; omega)
    refine xald 13 ⟨u300, _, rfl⟩ rfl rfl ?_
    refine xcall 16 [.ref 66] [] hH4 ⟨u300, _, rfl⟩ rfl rfl rfl rfl rfl (k_rem hH4 hP4 (fun hp13 hH13 hP13 F13 => ⟨_, rfl, ?_⟩))
    have G13 := G4.trans (bFr_sub (W1 := wM) F13 (by decide))
    have e13 : rN hp13 67 0 = rN hp4 67 0 := r_fr F13 rfl
    have t13 : ∀ u v, tT hp13 u v = tT hp4 u v := fun u v => r_fr F13 rfl
    refine xald 17 ⟨u300, _, rfl⟩ rfl rfl ?_
    refine xild 18 ⟨u300, _, rfl⟩ rfl rfl ?_
    refine xild 19 ⟨u300, _, rfl⟩ rfl rfl ?_
    refine xcall 22 [.ref 66, .int _, .int _] [] hH13 ⟨u300, _, rfl⟩ rfl rfl rfl rfl rfl (k_swc hH13 hP13 A0 B0 (CyOk_W (W := wRem) (by decide) F13 C0) (fun hp19 hH19 hP19 F19 => ⟨_, rfl, ?_⟩))
    have G19 := G13.trans (bFr_sub (W1 := wM) F19 (by decide))
    refine xald 23 ⟨u300, _, rfl⟩ rfl rfl ?_
    refine xgetI 26 hH19 ⟨u300, _, rfl⟩ rfl rfl (fun z23 h23 => ?_)
    exact xret ⟨u300, _, rfl⟩ rfl ⟨⟨_, rfl⟩, hH19, hP19, G19⟩
  · refine xcst 11 (0) ⟨u300, _, rfl⟩ rfl (by decide) (fun z10 h10 => ?_)
    exact xret ⟨u300, _, rfl⟩ rfl ⟨⟨_, rfl⟩, hH4, hP4, G4⟩
