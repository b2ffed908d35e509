/-! ===== ways by hand: quadrilaterals switched ===== -/
def QC (hp : amH) (m : Nat) (A : Nat → Nat × Nat × Nat) (Q : Nat) (I : Nat → Nat) : Prop := Arr hp m A ∧ Qr hp Q I
theorem QC_U {hp hp1 : amH} {i : Nat} {v : Int} (hU : rU hp hp1 77 i v) {m Q : Nat} {A : Nat → Nat × Nat × Nat} {I : Nat → Nat} (h : QC hp m A Q I) : QC hp1 m A Q I :=
  ⟨Arr_W (W := [(77, 999)]) (by decide) (rU_fr hU (bIn_all (by decide) i)) h.1, fun x hx => (rU_ne hU (by omega)).trans (h.2 x hx)⟩
/-- what was replaced, by what -/
def Rw (hp : amH) (A : Nat → Nat × Nat × Nat) (I : Nat → Nat) (P : Fin 6 → Nat) (x : Nat) : Prop := rN hp 77 (6 * x) = ((A (I x)).1 : Int) ∧ rN hp 77 (6 * x + 1) = ((A (I x)).2.1 : Int) ∧ rN hp 77 (6 * x + 2) = ((A (I x)).2.2 : Int) ∧ rN hp 77 (6 * x + 3) = (opp P (A (I x)).1 : Int) ∧ rN hp 77 (6 * x + 4) = (opp P (A (I x)).2.1 : Int) ∧ rN hp 77 (6 * x + 5) = (opp P (A (I x)).2.2 : Int)
theorem l220a {d : Nat} {hp0 : amH} {R : xQ} {T : Nat → Nat → Int} {p : Int} {m Q : Nat} {A : Nat → Nat × Nat × Nat} {I : Nat → Nat} {P : Fin 6 → Nat} {q : Int32} (p15 : p ≤ 15) (m35 : m ≤ 35) (hI : ∀ x, x < 4 → I x < m) (hTr : Trs T p 4 (fun x => A (I x))) (h6 : SixP (fun x => A (I x)) P) (hSw : Sws p 4 (fun x => A (I x)) (oppT P (fun x => A (I x)))) (hm : ∀ k, k < m → b3 (A k).1 (A k).2.1 (A k).2.2 = (mk A k : Int)) (hl : ∀ k, k < m → mk A k < 32768) (hb : ∀ x, x < 4 → ∀ w, (mk A (I x)).testBit w = true ↔ me (fun x => A (I x)) x w) (eq : q.toInt = (Q : Int)) (Q200 : Q < 200) (hQ : ∀ (k : Int32) (v : Option Value) hp, bHk 84 bTT hp → bFr [(77, 999)] hp0 hp → (∀ x, x < 4 → Rw hp A I P x) → xV (d + 2) am_m220 139 [some (.ref 66), some (.int q), some (.int k), v] [] hp R) :
    ∀ (jj X : Nat) (k : Int32) (v : Option Value) hp, bHk 84 bTT hp → QC hp m A Q I → bFr [(77, 999)] hp0 hp → X + jj = 4 → X ≤ 4 → k.toInt = (X : Int) → (∀ x, x < X → Rw hp A I P x) → xV (d + 2) am_m220 2 [some (.ref 66), some (.int q), some (.int k), v] [] hp R := by
  intro jj
  induction jj using Nat.strongRecOn with
  | ind jj ih =>
    intro X k v hp hH hC hF hjj hX hk hR2
    refine xild 3 ⟨u220, _, rfl⟩ rfl rfl ?_
    refine xcst 4 (4) ⟨u220, _, rfl⟩ rfl (by decide) (fun z3 h3 => ?_)
    refine xcmp_ge 7 ⟨u220, _, rfl⟩ rfl (fun c4 => ?_) (fun c4 => ?_)
    · exact hQ _ _ hp hH hF (fun x hx => hR2 x (by omega))
    · refine xald 8 ⟨u220, _, rfl⟩ rfl rfl ?_
      refine xgetR 11 76 hH ⟨u220, _, rfl⟩ rfl rfl ?_
      refine xcst 12 (4) ⟨u220, _, rfl⟩ rfl (by decide) (fun z11 h11 => ?_)
      refine xild 13 ⟨u220, _, rfl⟩ rfl rfl ?_
      refine xmul 14 (4 * Int32.toInt q) ⟨u220, _, rfl⟩ rfl (by rw [h11]) (by omega) (by omega) (fun z13 h13 => ?_)
      refine xild 15 ⟨u220, _, rfl⟩ rfl rfl ?_
      refine xadd 16 _ ⟨u220, _, rfl⟩ rfl rfl (by omega) (by omega) (fun z15 h15 => ?_)
      refine xiald 17 (4 * Q + X) hH ⟨u220, _, rfl⟩ rfl (by decide) rfl (by omega) (by omega) (fun z16 h16 => ?_)
      have w16 : z16.toInt = (I X : Int) := by rw [h16, hC.2 X (by omega)]
      have iX := hI X (by omega)
      have aX := hTr.1 X (by omega)
      have oX := hSw.1 X (by omega)
      dsimp only [oppT] at aX oX
      obtain ⟨r1, r2, r3, r4⟩ := hC.1.2 (I X) iX
      refine xist 18 ⟨u220, _, rfl⟩ rfl rfl ?_
      refine xald 19 ⟨u220, _, rfl⟩ rfl rfl ?_
      refine xgetR 22 77 hH ⟨u220, _, rfl⟩ rfl rfl ?_
      refine xbip 24 (6) ⟨u220, _, rfl⟩ rfl (by decide) (fun z22 h22 => ?_)
      refine xild 25 ⟨u220, _, rfl⟩ rfl rfl ?_
      refine xmul 26 (6 * Int32.toInt k) ⟨u220, _, rfl⟩ rfl (by rw [h22]) (by omega) (by omega) (fun z25 h25 => ?_)
      refine xald 27 ⟨u220, _, rfl⟩ rfl rfl ?_
      refine xgetR 30 72 hH ⟨u220, _, rfl⟩ rfl rfl ?_
      refine xild 31 ⟨u220, _, rfl⟩ rfl rfl ?_
      refine xiald 32 (I X) hH ⟨u220, _, rfl⟩ rfl (by decide) rfl (by omega) (by omega) (fun z31 h31 => ?_)
      have w31 : z31.toInt = ((A (I X)).1 : Int) := by rw [h31, (hC.1.2 (I X) iX).1]
      refine xiast 33 (6 * X) hH ⟨u220, _, rfl⟩ rfl (by decide) rfl (by omega) (by omega) (by omega) (by omega) (fun hp32 hH32 U32 => ?_)
      have C32 := QC_U U32 hC
      refine xald 34 ⟨u220, _, rfl⟩ rfl rfl ?_
      refine xgetR 37 77 hH32 ⟨u220, _, rfl⟩ rfl rfl ?_
      refine xbip 39 (6) ⟨u220, _, rfl⟩ rfl (by decide) (fun z37 h37 => ?_)
      refine xild 40 ⟨u220, _, rfl⟩ rfl rfl ?_
      refine xmul 41 (6 * Int32.toInt k) ⟨u220, _, rfl⟩ rfl (by rw [h37]) (by omega) (by omega) (fun z40 h40 => ?_)
      refine xcst 42 (1) ⟨u220, _, rfl⟩ rfl (by decide) (fun z41 h41 => ?_)
      refine xadd 43 _ ⟨u220, _, rfl⟩ rfl rfl (by omega) (by omega) (fun z42 h42 => ?_)
      refine xald 44 ⟨u220, _, rfl⟩ rfl rfl ?_
      refine xgetR 47 73 hH32 ⟨u220, _, rfl⟩ rfl rfl ?_
      refine xild 48 ⟨u220, _, rfl⟩ rfl rfl ?_
      refine xiald 49 (I X) hH32 ⟨u220, _, rfl⟩ rfl (by decide) rfl (by omega) (by omega) (fun z48 h48 => ?_)
      have w48 : z48.toInt = ((A (I X)).2.1 : Int) := by rw [h48, (C32.1.2 (I X) iX).2.1]
      refine xiast 50 (6 * X + 1) hH32 ⟨u220, _, rfl⟩ rfl (by decide) rfl (by omega) (by omega) (by omega) (by omega) (fun hp49 hH49 U49 => ?_)
      have C49 := QC_U U49 C32
      refine xald 51 ⟨u220, _, rfl⟩ rfl rfl ?_
      refine xgetR 54 77 hH49 ⟨u220, _, rfl⟩ rfl rfl ?_
      refine xbip 56 (6) ⟨u220, _, rfl⟩ rfl (by decide) (fun z54 h54 => ?_)
      refine xild 57 ⟨u220, _, rfl⟩ rfl rfl ?_
      refine xmul 58 (6 * Int32.toInt k) ⟨u220, _, rfl⟩ rfl (by rw [h54]) (by omega) (by omega) (fun z57 h57 => ?_)
      refine xcst 59 (2) ⟨u220, _, rfl⟩ rfl (by decide) (fun z58 h58 => ?_)
      refine xadd 60 _ ⟨u220, _, rfl⟩ rfl rfl (by omega) (by omega) (fun z59 h59 => ?_)
      refine xald 61 ⟨u220, _, rfl⟩ rfl rfl ?_
      refine xgetR 64 74 hH49 ⟨u220, _, rfl⟩ rfl rfl ?_
      refine xild 65 ⟨u220, _, rfl⟩ rfl rfl ?_
      refine xiald 66 (I X) hH49 ⟨u220, _, rfl⟩ rfl (by decide) rfl (by omega) (by omega) (fun z65 h65 => ?_)
      have w65 : z65.toInt = ((A (I X)).2.2 : Int) := by rw [h65, (C49.1.2 (I X) iX).2.2.1]
      refine xiast 67 (6 * X + 2) hH49 ⟨u220, _, rfl⟩ rfl (by decide) rfl (by omega) (by omega) (by omega) (by omega) (fun hp66 hH66 U66 => ?_)
      have C66 := QC_U U66 C49
      refine xald 68 ⟨u220, _, rfl⟩ rfl rfl ?_
      refine xgetR 71 77 hH66 ⟨u220, _, rfl⟩ rfl rfl ?_
      refine xbip 73 (6) ⟨u220, _, rfl⟩ rfl (by decide) (fun z71 h71 => ?_)
      refine xild 74 ⟨u220, _, rfl⟩ rfl rfl ?_
      refine xmul 75 (6 * Int32.toInt k) ⟨u220, _, rfl⟩ rfl (by rw [h71]) (by omega) (by omega) (fun z74 h74 => ?_)
      refine xcst 76 (3) ⟨u220, _, rfl⟩ rfl (by decide) (fun z75 h75 => ?_)
      refine xadd 77 _ ⟨u220, _, rfl⟩ rfl rfl (by omega) (by omega) (fun z76 h76 => ?_)
      refine xald 78 ⟨u220, _, rfl⟩ rfl rfl ?_
      refine xild 79 ⟨u220, _, rfl⟩ rfl rfl ?_
      refine xald 80 ⟨u220, _, rfl⟩ rfl rfl ?_
      refine xgetR 83 72 hH66 ⟨u220, _, rfl⟩ rfl rfl ?_
      refine xild 84 ⟨u220, _, rfl⟩ rfl rfl ?_
      refine xiald 85 (I X) hH66 ⟨u220, _, rfl⟩ rfl (by decide) rfl (by omega) (by omega) (fun z84 h84 => ?_)
      have w84 : z84.toInt = ((A (I X)).1 : Int) := by rw [h84, (C66.1.2 (I X) iX).1]
      refine xcall 88 [.ref 66, .int _, .int _] [.int _, .ref 77] hH66 ⟨u220, _, rfl⟩ rfl rfl rfl rfl rfl (k_opp hH66 C66.2 hI m35 (fun k hk => (C66.1.2 k hk).2.2.2.trans (hm k hk)) hl eq Q200 h6 hb (U := (A (I X)).1) (t0 := X) (by omega) (by omega) (by omega) (Or.inl rfl) (by omega) (fun z85 h85 => ⟨_, rfl, ?_⟩))
      refine xiast 89 (6 * X + 3) hH66 ⟨u220, _, rfl⟩ rfl (by decide) rfl (by omega) (by omega) (by omega) (by omega) (fun hp88 hH88 U88 => ?_)
      have C88 := QC_U U88 C66
      refine xald 90 ⟨u220, _, rfl⟩ rfl rfl ?_
      refine xgetR 93 77 hH88 ⟨u220, _, rfl⟩ rfl rfl ?_
      refine xbip 95 (6) ⟨u220, _, rfl⟩ rfl (by decide) (fun z93 h93 => ?_)
      refine xild 96 ⟨u220, _, rfl⟩ rfl rfl ?_
      refine xmul 97 (6 * Int32.toInt k) ⟨u220, _, rfl⟩ rfl (by rw [h93]) (by omega) (by omega) (fun z96 h96 => ?_)
      refine xcst 98 (4) ⟨u220, _, rfl⟩ rfl (by decide) (fun z97 h97 => ?_)
      refine xadd 99 _ ⟨u220, _, rfl⟩ rfl rfl (by omega) (by omega) (fun z98 h98 => ?_)
      refine xald 100 ⟨u220, _, rfl⟩ rfl rfl ?_
      refine xild 101 ⟨u220, _, rfl⟩ rfl rfl ?_
      refine xald 102 ⟨u220, _, rfl⟩ rfl rfl ?_
      refine xgetR 105 73 hH88 ⟨u220, _, rfl⟩ rfl rfl ?_
      refine xild 106 ⟨u220, _, rfl⟩ rfl rfl ?_
      refine xiald 107 (I X) hH88 ⟨u220, _, rfl⟩ rfl (by decide) rfl (by omega) (by omega) (fun z106 h106 => ?_)
      have w106 : z106.toInt = ((A (I X)).2.1 : Int) := by rw [h106, (C88.1.2 (I X) iX).2.1]
      refine xcall 110 [.ref 66, .int _, .int _] [.int _, .ref 77] hH88 ⟨u220, _, rfl⟩ rfl rfl rfl rfl rfl (k_opp hH88 C88.2 hI m35 (fun k hk => (C88.1.2 k hk).2.2.2.trans (hm k hk)) hl eq Q200 h6 hb (U := (A (I X)).2.1) (t0 := X) (by omega) (by omega) (by omega) (Or.inr (Or.inl rfl)) (by omega) (fun z107 h107 => ⟨_, rfl, ?_⟩))
      refine xiast 111 (6 * X + 4) hH88 ⟨u220, _, rfl⟩ rfl (by decide) rfl (by omega) (by omega) (by omega) (by omega) (fun hp110 hH110 U110 => ?_)
      have C110 := QC_U U110 C88
      refine xald 112 ⟨u220, _, rfl⟩ rfl rfl ?_
      refine xgetR 115 77 hH110 ⟨u220, _, rfl⟩ rfl rfl ?_
      refine xbip 117 (6) ⟨u220, _, rfl⟩ rfl (by decide) (fun z115 h115 => ?_)
      refine xild 118 ⟨u220, _, rfl⟩ rfl rfl ?_
      refine xmul 119 (6 * Int32.toInt k) ⟨u220, _, rfl⟩ rfl (by rw [h115]) (by omega) (by omega) (fun z118 h118 => ?_)
      refine xcst 120 (5) ⟨u220, _, rfl⟩ rfl (by decide) (fun z119 h119 => ?_)
      refine xadd 121 _ ⟨u220, _, rfl⟩ rfl rfl (by omega) (by omega) (fun z120 h120 => ?_)
      refine xald 122 ⟨u220, _, rfl⟩ rfl rfl ?_
      refine xild 123 ⟨u220, _, rfl⟩ rfl rfl ?_
      refine xald 124 ⟨u220, _, rfl⟩ rfl rfl ?_
      refine xgetR 127 74 hH110 ⟨u220, _, rfl⟩ rfl rfl ?_
      refine xild 128 ⟨u220, _, rfl⟩ rfl rfl ?_
      refine xiald 129 (I X) hH110 ⟨u220, _, rfl⟩ rfl (by decide) rfl (by omega) (by omega) (fun z128 h128 => ?_)
      have w128 : z128.toInt = ((A (I X)).2.2 : Int) := by rw [h128, (C110.1.2 (I X) iX).2.2.1]
      refine xcall 132 [.ref 66, .int _, .int _] [.int _, .ref 77] hH110 ⟨u220, _, rfl⟩ rfl rfl rfl rfl rfl (k_opp hH110 C110.2 hI m35 (fun k hk => (C110.1.2 k hk).2.2.2.trans (hm k hk)) hl eq Q200 h6 hb (U := (A (I X)).2.2) (t0 := X) (by omega) (by omega) (by omega) (Or.inr (Or.inr rfl)) (by omega) (fun z129 h129 => ⟨_, rfl, ?_⟩))
      refine xiast 133 (6 * X + 5) hH110 ⟨u220, _, rfl⟩ rfl (by decide) rfl (by omega) (by omega) (by omega) (by omega) (fun hp132 hH132 U132 => ?_)
      have C132 := QC_U U132 C110
      refine xinc 136 (1) ⟨u220, _, rfl⟩ rfl rfl rfl (by decide) (by omega) (by omega) (fun z133 h133 => ?_)
      refine xgoto ⟨u220, _, rfl⟩ ?_
      refine ih (jj - 1) (by omega) (X + 1) _ _ hp132 hH132 C132 (hF.trans ((rU_fr U32 (bIn_all (by decide) _)).trans ((rU_fr U49 (bIn_all (by decide) _)).trans ((rU_fr U66 (bIn_all (by decide) _)).trans ((rU_fr U88 (bIn_all (by decide) _)).trans ((rU_fr U110 (bIn_all (by decide) _)).trans (rU_fr U132 (bIn_all (by decide) _)))))))) (by omega) (by omega) (by omega) (fun x hx => ?_)
      by_cases e : x = X
      · subst e
        refine ⟨?_, ?_, ?_, ?_, ?_, ?_⟩
        · rw [rU_ne U132 (by omega), rU_ne U110 (by omega), rU_ne U88 (by omega), rU_ne U66 (by omega), rU_ne U49 (by omega), U32.1, w31]
        · rw [rU_ne U132 (by omega), rU_ne U110 (by omega), rU_ne U88 (by omega), rU_ne U66 (by omega), U49.1, w48]
        · rw [rU_ne U132 (by omega), rU_ne U110 (by omega), rU_ne U88 (by omega), U66.1, w65]
        · rw [rU_ne U132 (by omega), rU_ne U110 (by omega), U88.1, h85]
        · rw [rU_ne U132 (by omega), U110.1, h107]
        · rw [U132.1, h129]
      · have er : ∀ r, r < 6 → rN hp132 77 (6 * x + r) = rN hp 77 (6 * x + r) := fun r hr => by
          rw [rU_ne U132 (by omega), rU_ne U110 (by omega), rU_ne U88 (by omega), rU_ne U66 (by omega), rU_ne U49 (by omega), rU_ne U32 (by omega)]
        obtain ⟨g1, g2, g3, g4, g5, g6⟩ := hR2 x (by omega)
        exact ⟨(er 0 (by omega)).trans g1, (er 1 (by omega)).trans g2, (er 2 (by omega)).trans g3, (er 3 (by omega)).trans g4, (er 4 (by omega)).trans g5, (er 5 (by omega)).trans g6⟩
theorem Rw_e {hp hp1 : amH} (hF : bFr [(67, 999)] hp hp1) {A : Nat → Nat × Nat × Nat} {I : Nat → Nat} {P : Fin 6 → Nat} {x : Nat} (h : Rw hp A I P x) : Rw hp1 A I P x := by
  have e : ∀ i, rN hp1 77 i = rN hp 77 i := fun i => r_fr hF (bIn_ne (by decide))
  obtain ⟨g1, g2, g3, g4, g5, g6⟩ := h
  exact ⟨(e _).trans g1, (e _).trans g2, (e _).trans g3, (e _).trans g4, (e _).trans g5, (e _).trans g6⟩
theorem l220b {d : Nat} {hp0 : amH} {R : xQ} {T : Nat → Nat → Int} {p : Int} {m Q : Nat} {A : Nat → Nat × Nat × Nat} {I : Nat → Nat} {P : Fin 6 → Nat} {q : Int32} (p15 : p ≤ 15) (m35 : m ≤ 35) (hI : ∀ x, x < 4 → I x < m) (hTr : Trs T p 4 (fun x => A (I x))) (h6 : SixP (fun x => A (I x)) P) (hSw : Sws p 4 (fun x => A (I x)) (oppT P (fun x => A (I x)))) (hQ : ∀ (k : Int32) (v : Option Value) hp, bHk 84 bTT hp → P0 hp → bFr [(67, 999)] hp0 hp → rN hp 67 0 = p → (∀ x, x < 4 → Rw hp A I P x) → Tkn T (fun x => A (I x)) 4 hp → xV (d + 2) am_m220 179 [some (.ref 66), some (.int q), some (.int k), v] [] hp R) :
    ∀ (jj X : Nat) (k : Int32) (v : Option Value) hp, bHk 84 bTT hp → P0 hp → bFr [(67, 999)] hp0 hp → rN hp 67 0 = p → (∀ x, x < 4 → Rw hp A I P x) → Tkn T (fun x => A (I x)) X hp → X + jj = 4 → X ≤ 4 → k.toInt = 6 * (X : Int) → xV (d + 2) am_m220 141 [some (.ref 66), some (.int q), some (.int k), v] [] hp R := by
  intro jj
  induction jj using Nat.strongRecOn with
  | ind jj ih =>
    intro X k v hp hH hP hF he hRw hT hjj hX hk
    refine xild 142 ⟨u220, _, rfl⟩ rfl rfl ?_
    refine xbip 144 (24) ⟨u220, _, rfl⟩ rfl (by decide) (fun z142 h142 => ?_)
    refine xcmp_ge 147 ⟨u220, _, rfl⟩ rfl (fun c144 => ?_) (fun c144 => ?_)
    · exact hQ _ _ hp hH hP hF he hRw (by rwa [show X = 4 by omega] at hT)
    · refine xald 148 ⟨u220, _, rfl⟩ rfl rfl ?_
      refine xald 149 ⟨u220, _, rfl⟩ rfl rfl ?_
      refine xgetR 152 77 hH ⟨u220, _, rfl⟩ rfl rfl ?_
      refine xild 153 ⟨u220, _, rfl⟩ rfl rfl ?_
      refine xiald 154 (6 * X) hH ⟨u220, _, rfl⟩ rfl (by decide) rfl (by omega) (by omega) (fun z153 h153 => ?_)
      refine xald 155 ⟨u220, _, rfl⟩ rfl rfl ?_
      refine xgetR 158 77 hH ⟨u220, _, rfl⟩ rfl rfl ?_
      refine xild 159 ⟨u220, _, rfl⟩ rfl rfl ?_
      refine xcst 160 (1) ⟨u220, _, rfl⟩ rfl (by decide) (fun z159 h159 => ?_)
      refine xadd 161 _ ⟨u220, _, rfl⟩ rfl rfl (by omega) (by omega) (fun z160 h160 => ?_)
      refine xiald 162 (6 * X + 1) hH ⟨u220, _, rfl⟩ rfl (by decide) rfl (by omega) (by omega) (fun z161 h161 => ?_)
      refine xald 163 ⟨u220, _, rfl⟩ rfl rfl ?_
      refine xgetR 166 77 hH ⟨u220, _, rfl⟩ rfl rfl ?_
      refine xild 167 ⟨u220, _, rfl⟩ rfl rfl ?_
      refine xcst 168 (2) ⟨u220, _, rfl⟩ rfl (by decide) (fun z167 h167 => ?_)
      refine xadd 169 _ ⟨u220, _, rfl⟩ rfl rfl (by omega) (by omega) (fun z168 h168 => ?_)
      refine xiald 170 (6 * X + 2) hH ⟨u220, _, rfl⟩ rfl (by decide) rfl (by omega) (by omega) (fun z169 h169 => ?_)
      obtain ⟨g1, g2, g3, g4, g5, g6⟩ := hRw X (by omega)
      have w1 : z153.toInt = ((A (I X)).1 : Int) := h153.trans g1
      have w2 : z161.toInt = ((A (I X)).2.1 : Int) := h161.trans g2
      have w3 : z169.toInt = ((A (I X)).2.2 : Int) := h169.trans g3
      have aX := hTr.1 X (by omega)
      have hx := Trs_x p15 hTr (i := X) (by omega) hT
      dsimp only at aX hx
      refine xcall 173 [.ref 66, .int _, .int _, .int _] [] hH ⟨u220, _, rfl⟩ rfl rfl rfl rfl rfl (k_take hH hP (by omega) (by omega) (by omega) (by omega) (by rw [show z153.toInt.toNat = (A (I X)).1 by omega, show z161.toInt.toNat = (A (I X)).2.1 by omega, hx]; omega) (by omega) (fun hp170 hH170 hP170 F170 E170 T170 => ⟨_, rfl, ?_⟩))
      have e170 : rN hp170 67 0 = rN hp 67 0 := E170 0 (by omega)
      have T1 := Tkn_s hT (hp1 := hp170) (fun u v hu hv => by
        rw [T170 u v hu hv, show z153.toInt.toNat = (A (I X)).1 by omega, show z161.toInt.toNat = (A (I X)).2.1 by omega, show z169.toInt.toNat = (A (I X)).2.2 by omega])
      refine xinc 176 (6) ⟨u220, _, rfl⟩ rfl rfl rfl (by decide) (by omega) (by omega) (fun z173 h173 => ?_)
      refine xgoto ⟨u220, _, rfl⟩ ?_
      exact ih (jj - 1) (by omega) (X + 1) _ _ hp170 hH170 hP170 (hF.trans F170) (e170.trans he) (fun x hx => Rw_e F170 (hRw x hx)) T1 (by omega) (by omega) (by omega)
theorem l220c {d : Nat} {hp0 : amH} {R : xQ} {T : Nat → Nat → Int} {p : Int} {m Q : Nat} {A : Nat → Nat × Nat × Nat} {I : Nat → Nat} {P : Fin 6 → Nat} {q : Int32} (p15 : p ≤ 15) (m35 : m ≤ 35) (hI : ∀ x, x < 4 → I x < m) (hTr : Trs T p 4 (fun x => A (I x))) (h6 : SixP (fun x => A (I x)) P) (hSw : Sws p 4 (fun x => A (I x)) (oppT P (fun x => A (I x)))) (hQ : ∀ (k : Int32) (v : Option Value) hp, bHk 84 bTT hp → P0 hp → bFr [(67, 999)] hp0 hp → rN hp 67 0 = p → (∀ x, x < 4 → Rw hp A I P x) → True → xV (d + 2) am_m220 221 [some (.ref 66), some (.int q), some (.int k), v] [] hp R) :
    ∀ (jj X : Nat) (k : Int32) (v : Option Value) hp, bHk 84 bTT hp → P0 hp → bFr [(67, 999)] hp0 hp → rN hp 67 0 = p → (∀ x, x < 4 → Rw hp A I P x) → Ptn 4 (fun x => A (I x)) (oppT P (fun x => A (I x))) X hp → X + jj = 4 → X ≤ 4 → k.toInt = 6 * (X : Int) → xV (d + 2) am_m220 181 [some (.ref 66), some (.int q), some (.int k), v] [] hp R := by
  intro jj
  induction jj using Nat.strongRecOn with
  | ind jj ih =>
    intro X k v hp hH hP hF he hRw hT hjj hX hk
    refine xild 182 ⟨u220, _, rfl⟩ rfl rfl ?_
    refine xbip 184 (24) ⟨u220, _, rfl⟩ rfl (by decide) (fun z182 h182 => ?_)
    refine xcmp_ge 187 ⟨u220, _, rfl⟩ rfl (fun c184 => ?_) (fun c184 => ?_)
    · exact hQ _ _ hp hH hP hF he hRw trivial
    · refine xald 188 ⟨u220, _, rfl⟩ rfl rfl ?_
      refine xald 189 ⟨u220, _, rfl⟩ rfl rfl ?_
      refine xgetR 192 77 hH ⟨u220, _, rfl⟩ rfl rfl ?_
      refine xild 193 ⟨u220, _, rfl⟩ rfl rfl ?_
      refine xcst 194 (3) ⟨u220, _, rfl⟩ rfl (by decide) (fun z193 h193 => ?_)
      refine xadd 195 _ ⟨u220, _, rfl⟩ rfl rfl (by omega) (by omega) (fun z194 h194 => ?_)
      refine xiald 196 (6 * X + 3) hH ⟨u220, _, rfl⟩ rfl (by decide) rfl (by omega) (by omega) (fun z195 h195 => ?_)
      refine xald 197 ⟨u220, _, rfl⟩ rfl rfl ?_
      refine xgetR 200 77 hH ⟨u220, _, rfl⟩ rfl rfl ?_
      refine xild 201 ⟨u220, _, rfl⟩ rfl rfl ?_
      refine xcst 202 (4) ⟨u220, _, rfl⟩ rfl (by decide) (fun z201 h201 => ?_)
      refine xadd 203 _ ⟨u220, _, rfl⟩ rfl rfl (by omega) (by omega) (fun z202 h202 => ?_)
      refine xiald 204 (6 * X + 4) hH ⟨u220, _, rfl⟩ rfl (by decide) rfl (by omega) (by omega) (fun z203 h203 => ?_)
      refine xald 205 ⟨u220, _, rfl⟩ rfl rfl ?_
      refine xgetR 208 77 hH ⟨u220, _, rfl⟩ rfl rfl ?_
      refine xild 209 ⟨u220, _, rfl⟩ rfl rfl ?_
      refine xcst 210 (5) ⟨u220, _, rfl⟩ rfl (by decide) (fun z209 h209 => ?_)
      refine xadd 211 _ ⟨u220, _, rfl⟩ rfl rfl (by omega) (by omega) (fun z210 h210 => ?_)
      refine xiald 212 (6 * X + 5) hH ⟨u220, _, rfl⟩ rfl (by decide) rfl (by omega) (by omega) (fun z211 h211 => ?_)
      obtain ⟨g1, g2, g3, g4, g5, g6⟩ := hRw X (by omega)
      have w1 : z195.toInt = (opp P (A (I X)).1 : Int) := h195.trans g4
      have w2 : z203.toInt = (opp P (A (I X)).2.1 : Int) := h203.trans g5
      have w3 : z211.toInt = (opp P (A (I X)).2.2 : Int) := h211.trans g6
      have aX := hSw.1 X (by omega)
      have hf := Ptn_f p15 hSw (i := X) (by omega) hT
      dsimp only [oppT] at aX hf
      refine xcall 215 [.ref 66, .int _, .int _, .int _] [] hH ⟨u220, _, rfl⟩ rfl rfl rfl rfl rfl (k_put hH hP (by omega) (by omega) (by omega) (by omega) (by omega) (by omega) (by omega) (by omega) (by omega) (by rw [show z195.toInt.toNat = opp P (A (I X)).1 by omega, show z203.toInt.toNat = opp P (A (I X)).2.1 by omega, show z211.toInt.toNat = opp P (A (I X)).2.2 by omega]; exact hf) (fun hp212 hH212 hP212 F212 E212 T212 => ⟨_, rfl, ?_⟩))
      have e212 : rN hp212 67 0 = rN hp 67 0 := E212 0 (by omega)
      have T1 := Ptn_s hT (hp1 := hp212) (f := fun u v => z195.toInt + z203.toInt + z211.toInt - u - v) (fun u v hu hv => by
        rw [T212 u v hu hv, show z195.toInt.toNat = opp P (A (I X)).1 by omega, show z203.toInt.toNat = opp P (A (I X)).2.1 by omega, show z211.toInt.toNat = opp P (A (I X)).2.2 by omega]
        rfl)
      refine xinc 218 (6) ⟨u220, _, rfl⟩ rfl rfl rfl (by decide) (by omega) (by omega) (fun z215 h215 => ?_)
      refine xgoto ⟨u220, _, rfl⟩ ?_
      exact ih (jj - 1) (by omega) (X + 1) _ _ hp212 hH212 hP212 (hF.trans F212) (e212.trans he) (fun x hx => Rw_e F212 (hRw x hx)) T1 (by omega) (by omega) (by omega)
theorem e220 {d : Nat} {hp : amH} {R : xQ} {q k : Int32} {v : Option Value} (hH : bHk 84 bTT hp) (hP : P0 hp) (hR : ∀ hp1, bHk 84 bTT hp1 → P0 hp1 → bFr [(67, 999)] hp hp1 → R (.inl none) hp1) : xV (d + 2) am_m220 221 [some (.ref 66), some (.int q), some (.int k), v] [] hp R := by
  refine xald 222 ⟨u220, _, rfl⟩ rfl rfl ?_
  refine xgetR 225 67 hH ⟨u220, _, rfl⟩ rfl rfl ?_
  refine xcst 226 (1) ⟨u220, _, rfl⟩ rfl (by decide) (fun z225 h225 => ?_)
  refine xdup2 227 ⟨u220, _, rfl⟩ rfl rfl rfl ?_
  refine xiald 228 1 hH ⟨u220, _, rfl⟩ rfl (by decide) rfl (by omega) (by omega) (fun z227 h227 => ?_)
  refine xcst 229 (1) ⟨u220, _, rfl⟩ rfl (by decide) (fun z228 h228 => ?_)
  refine xaddw 230 ⟨u220, _, rfl⟩ rfl (fun z229 => ?_)
  have b1 := aMin z229
  have b2 := aMax z229
  refine xiast 231 1 hH ⟨u220, _, rfl⟩ rfl (by decide) rfl (by omega) (by omega) (by omega) (by omega) (fun hp230 hH230 U230 => ?_)
  refine xald 232 ⟨u220, _, rfl⟩ rfl rfl ?_
  refine xgetR 235 67 hH230 ⟨u220, _, rfl⟩ rfl rfl ?_
  refine xcst 236 (3) ⟨u220, _, rfl⟩ rfl (by decide) (fun z235 h235 => ?_)
  refine xdup2 237 ⟨u220, _, rfl⟩ rfl rfl rfl ?_
  refine xiald 238 3 hH230 ⟨u220, _, rfl⟩ rfl (by decide) rfl (by omega) (by omega) (fun z237 h237 => ?_)
  refine xcst 239 (4) ⟨u220, _, rfl⟩ rfl (by decide) (fun z238 h238 => ?_)
  refine xaddw 240 ⟨u220, _, rfl⟩ rfl (fun z239 => ?_)
  have b3 := aMin z239
  have b4 := aMax z239
  refine xiast 241 3 hH230 ⟨u220, _, rfl⟩ rfl (by decide) rfl (by omega) (by omega) (by omega) (by omega) (fun hp240 hH240 U240 => ?_)
  exact xretV ⟨u220, _, rfl⟩ rfl (hR hp240 hH240 (P0_cnt (by omega) (by omega) U240 (P0_cnt (by omega) (by omega) U230 hP)) ((rU_fr U230 (bIn_all (by decide) 1)).trans (rU_fr U240 (bIn_all (by decide) 3))))
