/-! ===== the class reads a statement ===== -/
/-- one point of a statement -/
theorem l79 {d : Nat} {hp : amH} {R : xQ} {y : tY} {s V m kk : Nat} {T : sT} {pre : List Int} {dv w k : Int32} (hH : bHk 84 bTT hp) (Y : cB hp = y) (hT : cT hp y s) (hs : (s : Int) ≤ rN hp 1 0) (hB : bdOk hp 8 V T) (hw : w.toInt = (m : Int)) (hm : m < 32768) (hpre : ∀ i, i < 15 → m.testBit i = decide ((i : Int) ∈ pre)) (hk : k.toInt = (kk : Int)) (hk3 : kk < 3)
    (hE : ∀ (z : Int32) hp1, ¬ tNum y s 0 ((V : Int) - 1) pre = 0 → z.toInt = 0 → bHk 84 bTT hp1 → pFr hp hp1 → rN hp1 1 1 = tNum y s 0 ((V : Int) - 1) pre → rN hp1 1 2 = (s : Int) → R (.inl (some (.int z))) hp1)
    (hN : ∀ (w1 k1 : Int32) hp1, tNum y s 0 ((V : Int) - 1) pre = 0 → 0 ≤ tV y s → tV y s < (V : Int) → ¬ tV y s ∈ pre → bHk 84 bTT hp1 → pFr hp hp1 → cB hp1 = y → cT hp1 y (tN y s) → bdOk hp1 8 V T → w1.toInt = ((m ||| 2 ^ (tV y s).toNat : Nat) : Int) → m ||| 2 ^ (tV y s).toNat < 32768 → k1.toInt = (kk : Int) + 1 → rN hp1 1 1 = rN hp 1 1 → rN hp1 1 2 = rN hp 1 2 → xV (d + 4) am_m79 35 [some (.ref 1), some (.ref 8), some (.int dv), some (.int w1), some (.int k1)] [] hp1 R) :
    xV (d + 4) am_m79 35 [some (.ref 1), some (.ref 8), some (.int dv), some (.int w), some (.int k)] [] hp R := by
  have hok : tOk (rN hp 1 0).toNat y := by rw [← Y]; exact cB_ok hH
  have b0 := b1_0 hH
  have w1 := tE_le hok (s := s) (by omega)
  have bV := hB.2.1.2.1
  have bP := hB.1
  have K0 := hT.2.2.1
  have hTs := hT.1
  refine xild2 37 ⟨u79, _, rfl⟩ rfl rfl ?_
  refine xcst 38 (3) ⟨u79, _, rfl⟩ rfl (by decide) (fun z37 h37 => ?_)
  refine xcmp_ge 41 ⟨u79, _, rfl⟩ rfl (fun c38 => ?_) (fun c38 => ?_)
  · omega
  · refine xald 42 ⟨u79, _, rfl⟩ rfl rfl ?_
    refine xgetC 45 hH ⟨u79, _, rfl⟩ rfl (by decide) (by decide) rfl rfl (by decide) (fun z42 h42 => ?_)
    refine xcst 46 (2) ⟨u79, _, rfl⟩ rfl (by decide) (fun z45 h45 => ?_)
    refine xcmp_eq 49 ⟨u79, _, rfl⟩ rfl (fun c46 => ?_) (fun c46 => ?_)
    · have k2 : ckK y s = 2 := by omega
      have v7 : rN hp 1 7 = tV y s := hT.2.2.2 (ckK_2.mp k2).1 (ckK_2.mp k2).2
      refine xald 56 ⟨u79, _, rfl⟩ rfl rfl ?_
      refine xald 57 ⟨u79, _, rfl⟩ rfl rfl ?_
      refine xgetC 60 hH ⟨u79, _, rfl⟩ rfl (by decide) (by decide) rfl rfl (by decide) (fun z57 h57 => ?_)
      refine xcallC 63 (o := 8) [.int _] [] hH ⟨u79, _, rfl⟩ rfl rfl (by decide) rfl (by decide) rfl ⟨rfl, rfl, rfl, rfl⟩ rfl (k_isp (o := 8) (Or.inr rfl) hH (fun z60 h60 => ⟨_, rfl, ?_⟩))
      refine xif_eq 66 ⟨u79, _, rfl⟩ rfl (fun c63 => ?_) (fun c63 => ?_)
      · refine xald 78 ⟨u79, _, rfl⟩ rfl rfl ?_
        refine xcst 79 (2) ⟨u79, _, rfl⟩ rfl (by decide) (fun z78 h78 => ?_)
        refine xcallC 82 (o := 1) [.int _] [] hH ⟨u79, _, rfl⟩ rfl rfl (by decide) rfl (by decide) rfl ⟨rfl, rfl, rfl, rfl⟩ rfl (k_cf hH (fun z79 hp79 Z79 hH79 F79 A79 B79 => ⟨_, rfl, ?_⟩))
        exact xretB ⟨u79, _, rfl⟩ rfl (by omega) (hE _ hp79 (by rw [tNum_2 k2 (by omega)]; decide) (by omega) hH79 (pFr_f F79) (by rw [tNum_2 k2 (by omega)]; omega) (by omega))
      · refine xild 67 ⟨u79, _, rfl⟩ rfl rfl ?_
        refine xald 68 ⟨u79, _, rfl⟩ rfl rfl ?_
        refine xgetC 71 hH ⟨u79, _, rfl⟩ rfl (by decide) (by decide) rfl rfl (by decide) (fun z68 h68 => ?_)
        refine xcallS 74 [.int _, .int _] [] hH ⟨u79, _, rfl⟩ rfl rfl rfl rfl rfl (k_has hw hm (n := (tV y s).toNat) (by omega) (by omega) (fun z71 h71 => ⟨_, rfl, ?_⟩))
        refine xif_eq 77 ⟨u79, _, rfl⟩ rfl (fun c74 => ?_) (fun c74 => ?_)
        · have nin : ¬ tV y s ∈ pre := fun z => by rw [hpre _ (by omega), show (((tV y s).toNat : Nat) : Int) = tV y s by omega, decide_eq_true z] at h71; simp at h71; omega
          refine xild 84 ⟨u79, _, rfl⟩ rfl rfl ?_
          refine xcst 85 (1) ⟨u79, _, rfl⟩ rfl (by decide) (fun z84 h84 => ?_)
          refine xald 86 ⟨u79, _, rfl⟩ rfl rfl ?_
          refine xgetC 89 hH ⟨u79, _, rfl⟩ rfl (by decide) (by decide) rfl rfl (by decide) (fun z86 h86 => ?_)
          refine xshl 90 ⟨u79, _, rfl⟩ rfl ?_
          refine xor_ 91 ⟨u79, _, rfl⟩ rfl ?_
          refine xist 92 ⟨u79, _, rfl⟩ rfl rfl ?_
          refine xald 93 ⟨u79, _, rfl⟩ rfl rfl ?_
          refine xcallC 96 (o := 1) [] [] hH ⟨u79, _, rfl⟩ rfl rfl (by decide) rfl (by decide) rfl ⟨rfl, rfl, rfl, rfl⟩ rfl (k_cadv hH Y (p := tE y s) hT.2.1 (by omega) (fun hp93 hH93 F93 Y93 T93 => ⟨_, rfl, ?_⟩))
          refine xinc 99 (1) ⟨u79, _, rfl⟩ rfl rfl rfl (by decide) (by omega) (by omega) (fun z96 h96 => ?_)
          refine xgoto ⟨u79, _, rfl⟩ ?_
          have w91 := i_or hw (i_shl h84 (show z86.toInt = (((tV y s).toNat : Nat) : Int) by omega) (by omega)).1 hm (i_shl h84 (show z86.toInt = (((tV y s).toNat : Nat) : Int) by omega) (by omega)).2
          exact hN _ _ hp93 (tNum_0 k2 (by omega) (by omega) nin) (by omega) (by omega) nin hH93 (pFr_t F93) Y93 T93 (bdOk_fr hB (r_fr F93 rfl) (fun i => r_fr F93 rfl) (fun i => r_fr F93 rfl)) w91.1 w91.2 (by omega) (r_fr F93 rfl) (r_fr F93 rfl)
        · refine xald 78 ⟨u79, _, rfl⟩ rfl rfl ?_
          refine xcst 79 (2) ⟨u79, _, rfl⟩ rfl (by decide) (fun z78 h78 => ?_)
          refine xcallC 82 (o := 1) [.int _] [] hH ⟨u79, _, rfl⟩ rfl rfl (by decide) rfl (by decide) rfl ⟨rfl, rfl, rfl, rfl⟩ rfl (k_cf hH (fun z79 hp79 Z79 hH79 F79 A79 B79 => ⟨_, rfl, ?_⟩))
          exact xretB ⟨u79, _, rfl⟩ rfl (by omega) (hE _ hp79 (by rw [tNum_2 k2 (Or.inr (Or.inr (by rw [hpre _ (by omega), show (((tV y s).toNat : Nat) : Int) = tV y s by omega] at h71; by_cases g : tV y s ∈ pre; exact g; rw [decide_eq_false g] at h71; simp at h71; omega)))]; decide) (by omega) hH79 (pFr_f F79) (by rw [tNum_2 k2 (Or.inr (Or.inr (by rw [hpre _ (by omega), show (((tV y s).toNat : Nat) : Int) = tV y s by omega] at h71; by_cases g : tV y s ∈ pre; exact g; rw [decide_eq_false g] at h71; simp at h71; omega)))]; omega) (by omega))
    · refine xald 50 ⟨u79, _, rfl⟩ rfl rfl ?_
      refine xcst 51 (1) ⟨u79, _, rfl⟩ rfl (by decide) (fun z50 h50 => ?_)
      refine xcallC 54 (o := 1) [.int _] [] hH ⟨u79, _, rfl⟩ rfl rfl (by decide) rfl (by decide) rfl ⟨rfl, rfl, rfl, rfl⟩ rfl (k_cf hH (fun z51 hp51 Z51 hH51 F51 A51 B51 => ⟨_, rfl, ?_⟩))
      exact xretB ⟨u79, _, rfl⟩ rfl (by omega) (hE _ hp51 (by rw [tNum_1 (by omega)]; decide) (by omega) hH51 (pFr_f F51) (by rw [tNum_1 (by omega)]; omega) (by omega))
def rSt (y : tY) (V : Nat) (T : sT) (s : Nat) (z : Int) (hp hp1 : amH) : Prop := match tSt y V T s with
  | .inl e => z = 0 ∧ rN hp1 1 1 = e.1 ∧ rN hp1 1 2 = (e.2 : Int)
  | .inr q => z = 1 ∧ bdOk hp1 8 V q.1 ∧ cT hp1 y q.2 ∧ rN hp1 1 1 = rN hp 1 1 ∧ rN hp1 1 2 = rN hp 1 2
theorem rSt_e {y : tY} {V : Nat} {T : sT} {s : Nat} {z : Int} {hp hp1 : amH} {c : Int} {q : Nat} (e : tSt y V T s = .inl (c, q)) (hz : z = 0) (h1 : rN hp1 1 1 = c) (h2 : rN hp1 1 2 = (q : Int)) : rSt y V T s z hp hp1 := by
  unfold rSt
  rw [e]
  exact ⟨hz, h1, h2⟩
theorem rSt_s {y : tY} {V : Nat} {T : sT} {s : Nat} {z : Int} {hp hp1 : amH} {T1 : sT} {q : Nat} (e : tSt y V T s = .inr (T1, q)) (hz : z = 1) (h1 : bdOk hp1 8 V T1) (h2 : cT hp1 y q) (h3 : rN hp1 1 1 = rN hp 1 1) (h4 : rN hp1 1 2 = rN hp 1 2) : rSt y V T s z hp hp1 := by
  unfold rSt
  rw [e]
  exact ⟨hz, h1, h2, h3, h4⟩
/-- the three points of a statement, read -/
def tGo (y : tY) (V s : Nat) : Prop := (tWd y s wDev = true ∨ tWd y s wTri = true) ∧ tNum y (tN y s) 0 ((V : Int) - 1) [] = 0 ∧ tNum y (tN y (tN y s)) 0 ((V : Int) - 1) [tV y (tN y s)] = 0 ∧ tNum y (tN y (tN y (tN y s))) 0 ((V : Int) - 1) [tV y (tN y s), tV y (tN y (tN y s))] = 0
theorem tSt_go {y : tY} {V s : Nat} {T : sT} (h : tGo y V s) : tSt y V T s = if ¬ tK y (tN y (tN y (tN y (tN y s)))) = 3 then .inl (1, tN y (tN y (tN y (tN y s)))) else
  if ¬ sFree T (tV y (tN y s)).toNat (tV y (tN y (tN y s))).toNat (tV y (tN y (tN y (tN y s)))).toNat then .inl (3, tN y (tN y (tN y (tN y s)))) else
  if tWd y s wTri then .inr (sPut T (tV y (tN y s)).toNat (tV y (tN y (tN y s))).toNat (tV y (tN y (tN y (tN y s)))).toNat, tN y (tN y (tN y (tN y (tN y s))))) else
  match sDv V (tV y (tN y s)).toNat (tV y (tN y (tN y s))).toNat (tV y (tN y (tN y (tN y s)))).toNat V 0 T 0 with
  | none => .inl (3, tN y (tN y (tN y (tN y s))))
  | some q => .inr (q.1, tN y (tN y (tN y (tN y (tN y s))))) := by
  obtain ⟨h1, h2, h3, h4⟩ := h
  unfold tSt
  rw [if_neg (fun z => z h1), if_neg (fun z => z h2), if_neg (fun z => z h3), if_neg (fun z => z h4)]
  rfl
/-- two words at one place -/
theorem tWd_ne {y : tY} {s : Nat} (h : tWd y s wDev = true) (h2 : tWd y s wTri = true) : False := by
  have a := (of_decide_eq_true h).2.2 0 (by decide)
  have b := (of_decide_eq_true h2).2.2 0 (by decide)
  rw [a] at b
  exact absurd b (by decide)
/-- behind the three points -/
theorem e79 {d : Nat} {hp0 hp : amH} {R : xQ} {y : tY} {s V : Nat} {T : sT} {dv w k : Int32} {v1 v2 v3 : Nat} (hH : bHk 84 bTT hp) (hF : pFr hp0 hp) (hk1 : rN hp 1 1 = rN hp0 1 1) (hk2 : rN hp 1 2 = rN hp0 1 2) (Y : cB hp = y) (hT : cT hp y (tN y (tN y (tN y (tN y s))))) (hs : ((tN y (tN y (tN y (tN y s))) : Nat) : Int) ≤ rN hp 1 0) (hB : bdOk hp 8 V T) (hg : tGo y V s) (e1 : tV y (tN y s) = (v1 : Int)) (e2 : tV y (tN y (tN y s)) = (v2 : Int)) (e3 : tV y (tN y (tN y (tN y s))) = (v3 : Int)) (l1 : v1 < V) (l2 : v2 < V) (l3 : v3 < V) (n12 : ¬ v1 = v2) (n23 : ¬ v2 = v3) (n13 : ¬ v1 = v3)
    (hw : w.toInt = ((m3 v1 v2 v3 : Nat) : Int)) (hk : k.toInt = 3) (hdv : (dv.toInt = 1 ∧ tWd y s wDev = true) ∨ (dv.toInt = 0 ∧ tWd y s wTri = true))
    (hR : ∀ (z : Int32) hp1, bHk 84 bTT hp1 → pFr hp0 hp1 → rSt y V T s z.toInt hp0 hp1 → R (.inl (some (.int z))) hp1) :
    xV (d + 4) am_m79 35 [some (.ref 1), some (.ref 8), some (.int dv), some (.int w), some (.int k)] [] hp R := by
  have hok : tOk (rN hp 1 0).toNat y := by rw [← Y]; exact cB_ok hH
  have b0 := b1_0 hH
  have w1 := tE_le hok (s := tN y (tN y (tN y (tN y s)))) (by omega)
  have bV := hB.2.1.2.1
  have K0 := hT.2.2.1
  have hTs := hT.1
  have go := tSt_go (T := T) hg
  rw [e1, e2, e3, Int.toNat_natCast, Int.toNat_natCast, Int.toNat_natCast] at go
  refine xild2 37 ⟨u79, _, rfl⟩ rfl rfl ?_
  refine xcst 38 (3) ⟨u79, _, rfl⟩ rfl (by decide) (fun z37 h37 => ?_)
  refine xcmp_ge 41 ⟨u79, _, rfl⟩ rfl (fun c38 => ?_) (fun c38 => ?_)
  · refine xald 103 ⟨u79, _, rfl⟩ rfl rfl ?_
    refine xgetC 106 hH ⟨u79, _, rfl⟩ rfl (by decide) (by decide) rfl rfl (by decide) (fun z103 h103 => ?_)
    refine xcst 107 (3) ⟨u79, _, rfl⟩ rfl (by decide) (fun z106 h106 => ?_)
    refine xcmp_eq 110 ⟨u79, _, rfl⟩ rfl (fun c107 => ?_) (fun c107 => ?_)
    · have k3 : tK y (tN y (tN y (tN y (tN y s)))) = 3 := ckK_3.mp (by omega)
      rw [if_neg (fun z => z k3)] at go
      refine xald 117 ⟨u79, _, rfl⟩ rfl rfl ?_
      refine xild 118 ⟨u79, _, rfl⟩ rfl rfl ?_
      refine xcallC 121 (o := 8) [.int _] [] hH ⟨u79, _, rfl⟩ rfl rfl (by decide) rfl (by decide) rfl ⟨rfl, rfl, rfl, rfl⟩ rfl (k_takU (o := 8) (Or.inr rfl) hH hB hw l1 l2 l3 n12 n23 n13 (fun z118 h118 => ⟨_, rfl, ?_⟩))
      refine xif_eq 124 ⟨u79, _, rfl⟩ rfl (fun c121 => ?_) (fun c121 => ?_)
      · have fr : ¬ sFree T v1 v2 v3 := by rcases h118 with g | g; omega; exact g.2
        rw [if_pos fr] at go
        refine xald 138 ⟨u79, _, rfl⟩ rfl rfl ?_
        refine xcst 139 (3) ⟨u79, _, rfl⟩ rfl (by decide) (fun z138 h138 => ?_)
        refine xcallC 142 (o := 1) [.int _] [] hH ⟨u79, _, rfl⟩ rfl rfl (by decide) rfl (by decide) rfl ⟨rfl, rfl, rfl, rfl⟩ rfl (k_cf hH (fun z139 hp139 Z139 hH139 F139 A139 B139 => ⟨_, rfl, ?_⟩))
        exact xretB ⟨u79, _, rfl⟩ rfl (by omega) (hR _ hp139 hH139 (hF.trans (pFr_f F139)) (rSt_e go (by omega) (by omega) (by omega)))
      · have fr : sFree T v1 v2 v3 := by rcases h118 with g | g; exact g.2; omega
        rw [if_neg (fun z => z fr)] at go
        refine xild 125 ⟨u79, _, rfl⟩ rfl rfl ?_
        refine xif_eq 128 ⟨u79, _, rfl⟩ rfl (fun c125 => ?_) (fun c125 => ?_)
        · have wd : tWd y s wTri = true := by rcases hdv with g | g; omega; exact g.2
          rw [if_pos wd] at go
          refine xild 144 ⟨u79, _, rfl⟩ rfl rfl ?_
          refine xif_ne 147 ⟨u79, _, rfl⟩ rfl (fun c144 => ?_) (fun c144 => ?_)
          · omega
          · refine xald 148 ⟨u79, _, rfl⟩ rfl rfl ?_
            refine xild 149 ⟨u79, _, rfl⟩ rfl rfl ?_
            refine xcallC 152 (o := 8) [.int _] [] hH ⟨u79, _, rfl⟩ rfl rfl (by decide) rfl (by decide) rfl ⟨rfl, rfl, rfl, rfl⟩ rfl (k_bputU (o := 8) (Or.inr rfl) hH hB hw l1 l2 l3 n12 n23 n13 fr (fun hp149 hH149 F149 B149 => ⟨_, rfl, ?_⟩))
            refine xald 153 ⟨u79, _, rfl⟩ rfl rfl ?_
            refine xcallC 156 (o := 1) [] [] hH149 ⟨u79, _, rfl⟩ rfl rfl (by decide) rfl (by decide) rfl ⟨rfl, rfl, rfl, rfl⟩ rfl (k_cadv hH149 (by rw [cB_p (pFr_x F149 (by simp)), Y]) (p := tE y (tN y (tN y (tN y (tN y s))))) (by rw [bFx_n F149 (by simp)]; exact hT.2.1) (by rw [bFx_n F149 (by simp)]; omega) (fun hp153 hH153 F153 Y153 T153 => ⟨_, rfl, ?_⟩))
            refine xcst 157 (1) ⟨u79, _, rfl⟩ rfl (by decide) (fun z156 h156 => ?_)
            exact xretB ⟨u79, _, rfl⟩ rfl (by omega) (hR _ hp153 hH153 ((hF.trans (pFr_x F149 (by simp))).trans (pFr_t F153)) (rSt_s go (by omega) (bdOk_fr B149 (r_fr F153 rfl) (fun i => r_fr F153 rfl) (fun i => r_fr F153 rfl)) T153 (by rw [show rN hp153 1 1 = rN hp149 1 1 from r_fr F153 rfl, bFx_n F149 (by simp)]; exact hk1) (by rw [show rN hp153 1 2 = rN hp149 1 2 from r_fr F153 rfl, bFx_n F149 (by simp)]; exact hk2)))
        · have wd : tWd y s wDev = true := by rcases hdv with g | g; exact g.2; omega
          rw [if_neg (fun z => tWd_ne wd z)] at go
          refine xald 129 ⟨u79, _, rfl⟩ rfl rfl ?_
          refine xild 130 ⟨u79, _, rfl⟩ rfl rfl ?_
          refine xcallC 133 (o := 8) [.int _] [] hH ⟨u79, _, rfl⟩ rfl rfl (by decide) rfl (by decide) rfl ⟨rfl, rfl, rfl, rfl⟩ rfl (k_pat (o := 8) (Or.inr rfl) hH hB hw l1 l2 l3 n12 n23 n13 (fun z130 hp130 hH130 F130 h130 => ⟨_, rfl, ?_⟩))
          refine xcst 134 (-1) ⟨u79, _, rfl⟩ rfl (by decide) (fun z133 h133 => ?_)
          refine xcmp_ne 137 ⟨u79, _, rfl⟩ rfl (fun c134 => ?_) (fun c134 => ?_)
          · have hh : ∃ q, sDv V v1 v2 v3 V 0 T 0 = some q ∧ bdOk hp130 8 V q.1 := by cases e : sDv V v1 v2 v3 V 0 T 0 with
              | none => rw [e] at h130; omega
              | some q => rw [e] at h130; exact ⟨q, rfl, h130.2⟩
            obtain ⟨q, hq, B130⟩ := hh
            rw [hq] at go
            refine xild 144 ⟨u79, _, rfl⟩ rfl rfl ?_
            refine xif_ne 147 ⟨u79, _, rfl⟩ rfl (fun c144 => ?_) (fun c144 => ?_)
            · refine xald 153 ⟨u79, _, rfl⟩ rfl rfl ?_
              refine xcallC 156 (o := 1) [] [] hH130 ⟨u79, _, rfl⟩ rfl rfl (by decide) rfl (by decide) rfl ⟨rfl, rfl, rfl, rfl⟩ rfl (k_cadv hH130 (by rw [cB_p (pFr_x F130 (by simp)), Y]) (p := tE y (tN y (tN y (tN y (tN y s))))) (by rw [bFx_n F130 (by simp)]; exact hT.2.1) (by rw [bFx_n F130 (by simp)]; omega) (fun hp153 hH153 F153 Y153 T153 => ⟨_, rfl, ?_⟩))
              refine xcst 157 (1) ⟨u79, _, rfl⟩ rfl (by decide) (fun z156 h156 => ?_)
              exact xretB ⟨u79, _, rfl⟩ rfl (by omega) (hR _ hp153 hH153 ((hF.trans (pFr_x F130 (by simp))).trans (pFr_t F153)) (rSt_s go (by omega) (bdOk_fr B130 (r_fr F153 rfl) (fun i => r_fr F153 rfl) (fun i => r_fr F153 rfl)) T153 (by rw [show rN hp153 1 1 = rN hp130 1 1 from r_fr F153 rfl, bFx_n F130 (by simp)]; exact hk1) (by rw [show rN hp153 1 2 = rN hp130 1 2 from r_fr F153 rfl, bFx_n F130 (by simp)]; exact hk2)))
            · omega
          · have hh : sDv V v1 v2 v3 V 0 T 0 = none := by cases e : sDv V v1 v2 v3 V 0 T 0 with
              | none => rfl
              | some q => rw [e] at h130; omega
            rw [hh] at go
            refine xald 138 ⟨u79, _, rfl⟩ rfl rfl ?_
            refine xcst 139 (3) ⟨u79, _, rfl⟩ rfl (by decide) (fun z138 h138 => ?_)
            refine xcallC 142 (o := 1) [.int _] [] hH130 ⟨u79, _, rfl⟩ rfl rfl (by decide) rfl (by decide) rfl ⟨rfl, rfl, rfl, rfl⟩ rfl (k_cf hH130 (fun z139 hp139 Z139 hH139 F139 A139 B139 => ⟨_, rfl, ?_⟩))
            exact xretB ⟨u79, _, rfl⟩ rfl (by omega) (hR _ hp139 hH139 ((hF.trans (pFr_x F130 (by simp))).trans (pFr_f F139)) (rSt_e go (by omega) (by omega) (by rw [B139, bFx_n F130 (by simp)]; exact hTs)))
    · refine xald 111 ⟨u79, _, rfl⟩ rfl rfl ?_
      refine xcst 112 (1) ⟨u79, _, rfl⟩ rfl (by decide) (fun z111 h111 => ?_)
      refine xcallC 115 (o := 1) [.int _] [] hH ⟨u79, _, rfl⟩ rfl rfl (by decide) rfl (by decide) rfl ⟨rfl, rfl, rfl, rfl⟩ rfl (k_cf hH (fun z112 hp112 Z112 hH112 F112 A112 B112 => ⟨_, rfl, ?_⟩))
      exact xretB ⟨u79, _, rfl⟩ rfl (by omega) (hR _ hp112 hH112 (hF.trans (pFr_f F112)) (rSt_e (by rw [go, if_pos (fun z => c107 (by have := ckK_3.mpr z; omega))]) (by omega) (by omega) (by omega)))
  · omega
