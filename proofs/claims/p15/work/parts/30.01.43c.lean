/-! ===== count on both sides ===== -/
theorem xtab (q : Nat) {M : amM} {pc a b d : Nat} {L : List (Option Value)} {st : List Value} {hp : amH} {Q : xQ} {dd lo hi : Int} {offs : Array Int} {x : Int32} {o : Int} (h : xI M pc (.tableswitch dd lo hi offs) a b) (ho : amOff x.toInt dd lo hi offs = some o) (e : (q : Int) = (pc : Int) + o) (hw : xV d M q L st hp Q) : xV d M pc L (.int x :: st) hp Q := by
  refine xstep h (fun cl hl => ⟨cl, ?_, hl⟩) hw
  simp only [amDo, amStep, amTbl, ho]
  rw [if_pos (by omega), ← e]
  rfl
def gCt (x : Int) : Int := if 0 ≤ x ∧ x ≤ 7 then 0 else 1
def ctV (V : Nat) (T : sT) (ty : Nat → Int) (n : Nat) (x : Int) : Int := if x = 0 then (V : Int) else if x = 1 then (((trL T 225).length : Nat) : Int) else if x = 2 then ((opC V T : Nat) : Int) else if x = 3 then ((nQ T : Nat) : Int) else if x = 7 then (n : Int) else ty (x - 4).toNat
theorem gCt_12 {x : Int} : gCt x = 0 ∨ gCt x = 1 := by unfold gCt; split <;> simp
theorem gCt_0 {x : Int} : gCt x = 0 ↔ 0 ≤ x ∧ x ≤ 7 := by unfold gCt; split <;> omega
theorem u118 : bUp 0 am_m118.1 = true := by decide +kernel
theorem k_118E {d V n : Nat} {h : Nat → sR} {sv : Option sR} {T : sT} {ty : Nat → Int} {hp : amH} {R : xQ} {a : Int32} (hH : bHk 84 bTT hp) (hS : clS hp (V, T, ty) n h sv)
    (hT : gCt a.toInt = 1 → R (.inr 0) hp)
    (hR : ∀ (z : Int32) hp1, bHk 84 bTT hp1 → cF hp hp1 → gCt a.toInt = 0 → clS hp1 (V, T, ty) n h sv → z.toInt = ctV V T ty n a.toInt → R (.inl (some (.int z))) hp1) : xK (d + 3) 118 [.ref 0, .int a] hp R := by
  have hB : bdOk hp 3 V T := hS.1
  have b0 : rN hp 3 0 = (V : Int) := hB.1
  have b1 : rN hp 3 1 = (((trL T 225).length : Nat) : Int) := hS.2.1.1
  have b2 : rN hp 49 0 = ((nQ T : Nat) : Int) := hS.2.2.1.1
  have b3 : ∀ i, i < 3 → rN hp 13 i = ty i := hS.2.2.2.1
  have b4 : rN hp 14 0 = (n : Int) := hS.2.2.2.2.1
  have t0 := b3 0 (by omega)
  have t1 := b3 1 (by omega)
  have t2 := b3 2 (by omega)
  refine xin (M := am_m118) rfl rfl rfl ?_
  refine xild 1 ⟨u118, _, rfl⟩ rfl rfl ?_
  have sp : (a.toInt < 0 ∨ 7 < a.toInt) ∨ a.toInt = 0 ∨ a.toInt = 1 ∨ a.toInt = 2 ∨ a.toInt = 3 ∨ a.toInt = 4 ∨ a.toInt = 5 ∨ a.toInt = 6 ∨ a.toInt = 7 := by omega
  rcases sp with e | e | e | e | e | e | e | e | e
  · refine xtab 112 ⟨u118, _, rfl⟩ (o := 111) (by unfold amOff; rw [if_pos (by omega)]) (by decide) ?_
    have g1 : gCt a.toInt = 1 := by unfold gCt; rw [if_neg (by omega)]
    exact xthr ⟨u118, _, rfl⟩ (by decide) rfl (by decide) (hT g1)
  · refine xtab 48 ⟨u118, _, rfl⟩ (o := 47) (by rw [e]; rfl) (by decide) ?_
    have g0 : gCt a.toInt = 0 := gCt_0.mpr (by omega)
    refine xald 49 ⟨u118, _, rfl⟩ rfl rfl ?_
    refine xgetD 52 (3) hH ⟨u118, _, rfl⟩ rfl (by decide) (by decide) rfl rfl (by decide) ?_
    refine xgetC 55 hH ⟨u118, _, rfl⟩ rfl (by decide) (by decide) rfl rfl (by decide) (fun z52 h52 => ?_)
    exact xret ⟨u118, _, rfl⟩ rfl (hR _ _ hH cF.refl g0 hS (by rw [e]; show _ = (V : Int); omega))
  · refine xtab 56 ⟨u118, _, rfl⟩ (o := 55) (by rw [e]; rfl) (by decide) ?_
    have g0 : gCt a.toInt = 0 := gCt_0.mpr (by omega)
    refine xald 57 ⟨u118, _, rfl⟩ rfl rfl ?_
    refine xgetD 60 (3) hH ⟨u118, _, rfl⟩ rfl (by decide) (by decide) rfl rfl (by decide) ?_
    refine xgetC 63 hH ⟨u118, _, rfl⟩ rfl (by decide) (by decide) rfl rfl (by decide) (fun z60 h60 => ?_)
    exact xret ⟨u118, _, rfl⟩ rfl (hR _ _ hH cF.refl g0 hS (by rw [e]; show _ = (((trL T 225).length : Nat) : Int); omega))
  · refine xtab 64 ⟨u118, _, rfl⟩ (o := 63) (by rw [e]; rfl) (by decide) ?_
    have g0 : gCt a.toInt = 0 := gCt_0.mpr (by omega)
    refine xald 65 ⟨u118, _, rfl⟩ rfl rfl ?_
    refine xgetD 68 (3) hH ⟨u118, _, rfl⟩ rfl (by decide) (by decide) rfl rfl (by decide) ?_
    refine xcallC 71 (o := 3) [] [] hH ⟨u118, _, rfl⟩ rfl rfl (by decide) rfl (by decide) rfl ⟨rfl, rfl, rfl, rfl⟩ rfl (k_23E (o := 3) (Or.inl rfl) hH hB (fun z68 h68 => ⟨_, rfl, ?_⟩))
    exact xret ⟨u118, _, rfl⟩ rfl (hR _ _ hH cF.refl g0 hS (by rw [e]; show _ = ((opC V T : Nat) : Int); omega))
  · refine xtab 72 ⟨u118, _, rfl⟩ (o := 71) (by rw [e]; rfl) (by decide) ?_
    have g0 : gCt a.toInt = 0 := gCt_0.mpr (by omega)
    refine xald 73 ⟨u118, _, rfl⟩ rfl rfl ?_
    refine xgetD 76 (49) hH ⟨u118, _, rfl⟩ rfl (by decide) (by decide) rfl rfl (by decide) ?_
    refine xgetC 79 hH ⟨u118, _, rfl⟩ rfl (by decide) (by decide) rfl rfl (by decide) (fun z76 h76 => ?_)
    exact xret ⟨u118, _, rfl⟩ rfl (hR _ _ hH cF.refl g0 hS (by rw [e]; show _ = ((nQ T : Nat) : Int); omega))
  · refine xtab 80 ⟨u118, _, rfl⟩ (o := 79) (by rw [e]; rfl) (by decide) ?_
    have g0 : gCt a.toInt = 0 := gCt_0.mpr (by omega)
    refine xald 81 ⟨u118, _, rfl⟩ rfl rfl ?_
    refine xgetD 84 (13) hH ⟨u118, _, rfl⟩ rfl (by decide) (by decide) rfl rfl (by decide) ?_
    refine xgetC 87 hH ⟨u118, _, rfl⟩ rfl (by decide) (by decide) rfl rfl (by decide) (fun z84 h84 => ?_)
    exact xret ⟨u118, _, rfl⟩ rfl (hR _ _ hH cF.refl g0 hS (by rw [e]; show _ = ty 0; omega))
  · refine xtab 88 ⟨u118, _, rfl⟩ (o := 87) (by rw [e]; rfl) (by decide) ?_
    have g0 : gCt a.toInt = 0 := gCt_0.mpr (by omega)
    refine xald 89 ⟨u118, _, rfl⟩ rfl rfl ?_
    refine xgetD 92 (13) hH ⟨u118, _, rfl⟩ rfl (by decide) (by decide) rfl rfl (by decide) ?_
    refine xgetC 95 hH ⟨u118, _, rfl⟩ rfl (by decide) (by decide) rfl rfl (by decide) (fun z92 h92 => ?_)
    exact xret ⟨u118, _, rfl⟩ rfl (hR _ _ hH cF.refl g0 hS (by rw [e]; show _ = ty 1; omega))
  · refine xtab 96 ⟨u118, _, rfl⟩ (o := 95) (by rw [e]; rfl) (by decide) ?_
    have g0 : gCt a.toInt = 0 := gCt_0.mpr (by omega)
    refine xald 97 ⟨u118, _, rfl⟩ rfl rfl ?_
    refine xgetD 100 (13) hH ⟨u118, _, rfl⟩ rfl (by decide) (by decide) rfl rfl (by decide) ?_
    refine xgetC 103 hH ⟨u118, _, rfl⟩ rfl (by decide) (by decide) rfl rfl (by decide) (fun z100 h100 => ?_)
    exact xret ⟨u118, _, rfl⟩ rfl (hR _ _ hH cF.refl g0 hS (by rw [e]; show _ = ty 2; omega))
  · refine xtab 104 ⟨u118, _, rfl⟩ (o := 103) (by rw [e]; rfl) (by decide) ?_
    have g0 : gCt a.toInt = 0 := gCt_0.mpr (by omega)
    refine xald 105 ⟨u118, _, rfl⟩ rfl rfl ?_
    refine xgetD 108 (14) hH ⟨u118, _, rfl⟩ rfl (by decide) (by decide) rfl rfl (by decide) ?_
    refine xgetC 111 hH ⟨u118, _, rfl⟩ rfl (by decide) (by decide) rfl rfl (by decide) (fun z108 h108 => ?_)
    exact xret ⟨u118, _, rfl⟩ rfl (hR _ _ hH cF.refl g0 hS (by rw [e]; show _ = (n : Int); omega))
theorem k_215E {d V : Nat} {T : sT} {hp : amH} {R : xQ} (hH : bHk 84 bTT hp) (hP : P0 hp) (hB : rdOk hp V T)
    (hR : ∀ (z : Int32) hp1, bHk 84 bTT hp1 → bFr bLT hp hp1 → rdOk hp1 V T → rlN hp1 T 225 → z.toInt = ((opC V T : Nat) : Int) → R (.inl (some (.int z))) hp1) : xK (d + 3) 215 [.ref 66] hp R := by
  have hV : rN hp 67 0 = (V : Int) := hB.1
  have hT : sOk V T := hB.2.1
  have k := op_half hT
  have h15 := hT.2.1
  have l35 := trL_35 hT 225
  have ev : (V : Int) * ((V : Int) - 1) / 2 = ((V * (V - 1) / 2 : Nat) : Int) := by
    have e3 := hT.1
    rw [show (V : Int) - 1 = ((V - 1 : Nat) : Int) by omega, ← Int.natCast_mul]
    rfl
  have em : V * (V - 1) / 2 ≤ 15 * 14 / 2 := Nat.div_le_div_right (Nat.mul_le_mul h15 (by omega))
  have u215 : bUp 0 am_m215.1 = true := by decide +kernel
  have ec : opC V T = V * (V - 1) / 2 - 3 * (trL T 225).length := rfl
  generalize hw : V * (V - 1) / 2 = w at *
  refine xin (M := am_m215) rfl rfl rfl ?_
  refine xald 1 ⟨u215, _, rfl⟩ rfl rfl ?_
  refine xcall 4 [.ref 66] [] hH ⟨u215, _, rfl⟩ rfl rfl rfl rfl rfl (k_pairs hH hP (fun z1 h1 => ⟨_, rfl, ?_⟩))
  rw [hV, ev] at h1
  refine xcst 5 (3) ⟨u215, _, rfl⟩ rfl (by decide) (fun z4 h4 => ?_)
  refine xald 6 ⟨u215, _, rfl⟩ rfl rfl ?_
  refine xcall 9 [.ref 66] [.int _, .int _] hH ⟨u215, _, rfl⟩ rfl rfl rfl rfl rfl (k_rtm hH hB (fun z6 hp6 hH6 F6 B6 L6 h6 => ⟨_, rfl, ?_⟩))
  refine xmul 10 (3 * Int32.toInt z6) ⟨u215, _, rfl⟩ rfl (by rw [h4]) (by omega) (by omega) (fun z9 h9 => ?_)
  refine xsub 11 _ ⟨u215, _, rfl⟩ rfl rfl (by omega) (by omega) (fun z10 h10 => ?_)
  exact xret ⟨u215, _, rfl⟩ rfl (hR _ _ hH6 F6 B6 L6 (by omega))
theorem k_260E {d V n : Nat} {h : Nat → sR} {sv : Option sR} {T : sT} {ty : Nat → Int} {hp : amH} {R : xQ} {a : Int32} (hH : bHk 84 bTT hp) (hP : P0 hp) (hS : rfS hp (V, T, ty) n h sv)
    (hR : ∀ (z : Int32) hp1, bHk 84 bTT hp1 → P0 hp1 → bFr wM hp hp1 → rN hp1 66 7 = gCt a.toInt → ((¬ gCt a.toInt = 0 ∧ rfS hp1 (V, T, ty) n h sv) ∨ (gCt a.toInt = 0 ∧ rfS hp1 (V, T, ty) n h sv ∧ z.toInt = ctV V T ty n a.toInt)) → R (.inl (some (.int z))) hp1) : xK (d + 6) 260 [.ref 66, .int a] hp R := by
  have u260 : bUp 0 am_m260.1 = true := by decide +kernel
  refine xin (M := am_m260) rfl rfl rfl ?_
  refine xald 1 ⟨u260, _, rfl⟩ rfl rfl ?_
  refine xcst 2 (0) ⟨u260, _, rfl⟩ rfl (by decide) (fun z1 h1 => ?_)
  refine xputI 5 hH ⟨u260, _, rfl⟩ rfl rfl ⟨rfl, rfl⟩ (by omega) (by omega) (fun hp2 hH2 U2 => ?_)
  have s2 := U2.1
  have S2 := rfS_W (W := [(66, 7)]) hS (rU_fr U2 rfl) (fun _ => rfl) rfl rfl (fun _ => rfl) (fun _ => rfl)
  have P2 := P0_W (W := [(66, 7)]) (by decide) (rU_fr U2 rfl) hP
  refine xald 6 ⟨u260, _, rfl⟩ rfl rfl ?_
  refine xild 7 ⟨u260, _, rfl⟩ rfl rfl ?_
  refine xcst 8 (0) ⟨u260, _, rfl⟩ rfl (by decide) (fun z7 h7 => ?_)
  refine xbip 10 (7) ⟨u260, _, rfl⟩ rfl (by decide) (fun z8 h8 => ?_)
  refine xcallS 13 [.int _, .int _, .int _] [.ref 66] hH2 ⟨u260, _, rfl⟩ rfl rfl rfl rfl rfl (k_inr (fun z10 h10 => ⟨_, rfl, ?_⟩))
  refine xif_ne 16 ⟨u260, _, rfl⟩ rfl (fun c13 => ?_) (fun c13 => ?_)
  · refine xcst 21 (0) ⟨u260, _, rfl⟩ rfl (by decide) (fun z20 h20 => ?_)
    refine xcst 22 (1) ⟨u260, _, rfl⟩ rfl (by decide) (fun z21 h21 => ?_)
    refine xcall 25 [.ref 66, .int _, .int _] [] hH2 ⟨u260, _, rfl⟩ rfl rfl rfl rfl rfl (k_failsE hH2 (by omega) (fun hp22 hH22 V22 => ⟨_, rfl, ?_⟩))
    refine xif_eq 28 ⟨u260, _, rfl⟩ rfl (fun c25 => ?_) (fun c25 => ?_)
    · have hpe : hp2 = hp22 := by
        rcases V22 with ⟨q1, e⟩ | ⟨q1, -⟩
        · exact e.symm
        · omega
      subst hpe
      have g0 : gCt a.toInt = 0 := gCt_0.mpr (by omega)
      have S22 := S2
      have t22 : rN hp2 66 7 = gCt a.toInt := by rw [U2.1, g0]; exact h1
      have hB := rowOk_rd S2.1
      have b0 : rN hp2 67 0 = (V : Int) := hB.1
      have b4 : rN hp2 66 5 = (n : Int) := S2.2.1
      have b5 : ∀ i, i < 3 → rN hp2 67 (i + 1) = ty i := S2.1.2.2.2.2
      have t0 : rN hp2 67 1 = ty 0 := b5 0 (by omega)
      have t1 : rN hp2 67 2 = ty 1 := b5 1 (by omega)
      have t2 : rN hp2 67 3 = ty 2 := b5 2 (by omega)
      refine xild 31 ⟨u260, _, rfl⟩ rfl rfl ?_
      have sp : a.toInt = 0 ∨ a.toInt = 1 ∨ a.toInt = 2 ∨ a.toInt = 3 ∨ a.toInt = 4 ∨ a.toInt = 5 ∨ a.toInt = 6 ∨ a.toInt = 7 := by omega
      rcases sp with e | e | e | e | e | e | e | e
      · refine xtab 76 ⟨u260, _, rfl⟩ (o := 45) (by rw [e]; rfl) (by decide) ?_
        refine xald 77 ⟨u260, _, rfl⟩ rfl rfl ?_
        refine xcall 80 [.ref 66] [] hH22 ⟨u260, _, rfl⟩ rfl rfl rfl rfl rfl (k_points hH22 (fun z77 h77 => ⟨_, rfl, ?_⟩))
        exact xret ⟨u260, _, rfl⟩ rfl (hR _ hp2 hH22 P2 (rU_fr U2 (by decide)) t22 (Or.inr ⟨g0, S2, by rw [e]; show _ = (V : Int); omega⟩))
      · refine xtab 81 ⟨u260, _, rfl⟩ (o := 50) (by rw [e]; rfl) (by decide) ?_
        refine xald 82 ⟨u260, _, rfl⟩ rfl rfl ?_
        refine xcall 85 [.ref 66] [] hH22 ⟨u260, _, rfl⟩ rfl rfl rfl rfl rfl (k_rtm hH22 hB (fun z82 hp82 hH82 F82 B82 L82 h82 => ⟨_, rfl, ?_⟩))
        exact xret ⟨u260, _, rfl⟩ rfl (hR _ hp82 hH82 (P0_W (W := bLT) (by decide) F82 P2) ((rU_fr U2 (by decide)).trans (bFr_sub F82 (by decide))) (by rw [show rN hp82 66 7 = rN hp2 66 7 from r_fr F82 rfl]; exact t22) (Or.inr ⟨g0, rfS_W S2 F82 (fun _ => rfl) rfl rfl (fun _ => rfl) (fun _ => rfl), by rw [e]; show _ = (((trL T 225).length : Nat) : Int); omega⟩))
      · refine xtab 86 ⟨u260, _, rfl⟩ (o := 55) (by rw [e]; rfl) (by decide) ?_
        refine xald 87 ⟨u260, _, rfl⟩ rfl rfl ?_
        refine xcall 90 [.ref 66] [] hH22 ⟨u260, _, rfl⟩ rfl rfl rfl rfl rfl (k_215E hH22 P2 hB (fun z87 hp87 hH87 F87 B87 L87 h87 => ⟨_, rfl, ?_⟩))
        exact xret ⟨u260, _, rfl⟩ rfl (hR _ hp87 hH87 (P0_W (W := bLT) (by decide) F87 P2) ((rU_fr U2 (by decide)).trans (bFr_sub F87 (by decide))) (by rw [show rN hp87 66 7 = rN hp2 66 7 from r_fr F87 rfl]; exact t22) (Or.inr ⟨g0, rfS_W S2 F87 (fun _ => rfl) rfl rfl (fun _ => rfl) (fun _ => rfl), by rw [e]; show _ = ((opC V T : Nat) : Int); omega⟩))
      · refine xtab 91 ⟨u260, _, rfl⟩ (o := 60) (by rw [e]; rfl) (by decide) ?_
        refine xald 92 ⟨u260, _, rfl⟩ rfl rfl ?_
        refine xcall 95 [.ref 66] [] hH22 ⟨u260, _, rfl⟩ rfl rfl rfl rfl rfl (k_261E hH22 hB (fun z92 hp92 hH92 F92 L92 Q92 h92 => ⟨_, rfl, ?_⟩))
        exact xret ⟨u260, _, rfl⟩ rfl (hR _ hp92 hH92 (P0_W (W := wLQE) (by decide) F92 P2) ((rU_fr U2 (by decide)).trans (bFr_sub F92 (by decide))) (by rw [show rN hp92 66 7 = rN hp2 66 7 from r_fr F92 rfl]; exact t22) (Or.inr ⟨g0, rfS_W S2 F92 (fun _ => rfl) rfl rfl (fun _ => rfl) (fun _ => rfl), by rw [e]; show _ = ((nQ T : Nat) : Int); omega⟩))
      · refine xtab 101 ⟨u260, _, rfl⟩ (o := 70) (by rw [e]; rfl) (by decide) ?_
        refine xald 102 ⟨u260, _, rfl⟩ rfl rfl ?_
        refine xgetR 105 67 hH22 ⟨u260, _, rfl⟩ rfl rfl ?_
        refine xcst 106 (1) ⟨u260, _, rfl⟩ rfl (by decide) (fun z105 h105 => ?_)
        refine xild 107 ⟨u260, _, rfl⟩ rfl rfl ?_
        refine xadd 108 _ ⟨u260, _, rfl⟩ rfl rfl (by omega) (by omega) (fun z107 h107 => ?_)
        refine xcst 109 (4) ⟨u260, _, rfl⟩ rfl (by decide) (fun z108 h108 => ?_)
        refine xsub 110 _ ⟨u260, _, rfl⟩ rfl rfl (by omega) (by omega) (fun z109 h109 => ?_)
        have hx109 : z109.toInt = ((1 : Nat) : Int) := by omega
        refine xiald 111 1 hH22 ⟨u260, _, rfl⟩ rfl (by decide) rfl (by omega) (by omega) (fun z110 h110 => ?_)
        exact xret ⟨u260, _, rfl⟩ rfl (hR _ hp2 hH22 P2 (rU_fr U2 (by decide)) t22 (Or.inr ⟨g0, S2, by rw [e]; show _ = ty 0; omega⟩))
      · refine xtab 101 ⟨u260, _, rfl⟩ (o := 70) (by rw [e]; rfl) (by decide) ?_
        refine xald 102 ⟨u260, _, rfl⟩ rfl rfl ?_
        refine xgetR 105 67 hH22 ⟨u260, _, rfl⟩ rfl rfl ?_
        refine xcst 106 (1) ⟨u260, _, rfl⟩ rfl (by decide) (fun z105 h105 => ?_)
        refine xild 107 ⟨u260, _, rfl⟩ rfl rfl ?_
        refine xadd 108 _ ⟨u260, _, rfl⟩ rfl rfl (by omega) (by omega) (fun z107 h107 => ?_)
        refine xcst 109 (4) ⟨u260, _, rfl⟩ rfl (by decide) (fun z108 h108 => ?_)
        refine xsub 110 _ ⟨u260, _, rfl⟩ rfl rfl (by omega) (by omega) (fun z109 h109 => ?_)
        have hx109 : z109.toInt = ((2 : Nat) : Int) := by omega
        refine xiald 111 2 hH22 ⟨u260, _, rfl⟩ rfl (by decide) rfl (by omega) (by omega) (fun z110 h110 => ?_)
        exact xret ⟨u260, _, rfl⟩ rfl (hR _ hp2 hH22 P2 (rU_fr U2 (by decide)) t22 (Or.inr ⟨g0, S2, by rw [e]; show _ = ty 1; omega⟩))
      · refine xtab 101 ⟨u260, _, rfl⟩ (o := 70) (by rw [e]; rfl) (by decide) ?_
        refine xald 102 ⟨u260, _, rfl⟩ rfl rfl ?_
        refine xgetR 105 67 hH22 ⟨u260, _, rfl⟩ rfl rfl ?_
        refine xcst 106 (1) ⟨u260, _, rfl⟩ rfl (by decide) (fun z105 h105 => ?_)
        refine xild 107 ⟨u260, _, rfl⟩ rfl rfl ?_
        refine xadd 108 _ ⟨u260, _, rfl⟩ rfl rfl (by omega) (by omega) (fun z107 h107 => ?_)
        refine xcst 109 (4) ⟨u260, _, rfl⟩ rfl (by decide) (fun z108 h108 => ?_)
        refine xsub 110 _ ⟨u260, _, rfl⟩ rfl rfl (by omega) (by omega) (fun z109 h109 => ?_)
        have hx109 : z109.toInt = ((3 : Nat) : Int) := by omega
        refine xiald 111 3 hH22 ⟨u260, _, rfl⟩ rfl (by decide) rfl (by omega) (by omega) (fun z110 h110 => ?_)
        exact xret ⟨u260, _, rfl⟩ rfl (hR _ hp2 hH22 P2 (rU_fr U2 (by decide)) t22 (Or.inr ⟨g0, S2, by rw [e]; show _ = ty 2; omega⟩))
      · refine xtab 96 ⟨u260, _, rfl⟩ (o := 65) (by rw [e]; rfl) (by decide) ?_
        refine xald 97 ⟨u260, _, rfl⟩ rfl rfl ?_
        refine xgetI 100 hH22 ⟨u260, _, rfl⟩ rfl rfl (fun z97 h97 => ?_)
        exact xret ⟨u260, _, rfl⟩ rfl (hR _ hp2 hH22 P2 (rU_fr U2 (by decide)) t22 (Or.inr ⟨g0, S2, by rw [e]; show _ = (n : Int); omega⟩))
    · rcases V22 with ⟨q1, -⟩ | ⟨q1, -⟩ <;> omega
  · refine xcst 17 (1) ⟨u260, _, rfl⟩ rfl (by decide) (fun z16 h16 => ?_)
    refine xgoto ⟨u260, _, rfl⟩ ?_
    refine xcst 22 (1) ⟨u260, _, rfl⟩ rfl (by decide) (fun z21 h21 => ?_)
    refine xcall 25 [.ref 66, .int _, .int _] [] hH2 ⟨u260, _, rfl⟩ rfl rfl rfl rfl rfl (k_failsE hH2 (by omega) (fun hp22 hH22 V22 => ⟨_, rfl, ?_⟩))
    refine xif_eq 28 ⟨u260, _, rfl⟩ rfl (fun c25 => ?_) (fun c25 => ?_)
    · rcases V22 with ⟨q1, -⟩ | ⟨q1, -⟩ <;> omega
    · refine xcst 29 (0) ⟨u260, _, rfl⟩ rfl (by decide) (fun z28 h28 => ?_)
      rcases V22 with ⟨q1, -⟩ | ⟨q1, U⟩
      · omega
      · have g1 : gCt a.toInt = 1 := by unfold gCt; rw [if_neg (by omega)]
        exact xret ⟨u260, _, rfl⟩ rfl (hR _ hp22 hH22 (P0_W (W := [(66, 7)]) (by decide) (rU_fr U rfl) P2) ((rU_fr U2 (by decide)).trans (rU_fr U (by decide))) (by rw [U.1, g1]; omega) (Or.inl ⟨by rw [g1]; decide, rfS_W (W := [(66, 7)]) S2 (rU_fr U rfl) (fun _ => rfl) rfl rfl (fun _ => rfl) (fun _ => rfl)⟩))
