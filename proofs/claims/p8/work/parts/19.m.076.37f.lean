/-! ===== the reference turns ===== -/
theorem l281a {d V n : Nat} {h : Nat → sR} {sv : Option sR} {T : sT} {ty : Nat → Int} {hp0 : amH} {R : xQ} {a w : Int32} (hT : sOk V T) (hL0 : rlN hp0 T 225)
    (hQ : ∀ (wt : Int32) (v4 v5 v6 : Option Value) hp1, bHk 84 bTT hp1 → P0 hp1 → bFr [(67, 999)] hp0 hp1 → rfS hp1 (V, sE, ty) n h sv → xV (d + 4) am_m281 69 [some (.ref 66), some (.int a), some (.int w), some (.int wt), v4, v5, v6] [] hp1 R) :
    ∀ (jj t m : Nat) (wt : Int32) (v4 v5 v6 : Option Value) (hp : amH), wt.toInt = (t : Int) → t + jj = (trL T 225).length → (trL T m).length = t → bHk 84 bTT hp → P0 hp → bFr [(67, 999)] hp0 hp → rfS hp (V, dP (fun _ => true) T m, ty) n h sv → xV (d + 4) am_m281 33 [some (.ref 66), some (.int a), some (.int w), some (.int wt), v4, v5, v6] [] hp R := by
  have l35 := trL_35 hT 225
  intro jj
  induction jj with
  | zero =>
    intro t m wt v4 v5 v6 hp hwt hj hm hH hP hF hS
    have L1 : rN hp 66 12 = (((trL T 225).length : Nat) : Int) := (r_fr hF rfl).trans hL0.1
    have eT : dP (fun _ => true) T m = sE := (dP_eq (by omega)).trans (dP_all hT)
    rw [eT] at hS
    refine xild 34 ⟨u281, _, rfl⟩ rfl rfl ?_
    refine xald 35 ⟨u281, _, rfl⟩ rfl rfl ?_
    refine xgetI 38 hH ⟨u281, _, rfl⟩ rfl rfl (fun z35 h35 => ?_)
    refine xcmp_ge 41 ⟨u281, _, rfl⟩ rfl (fun c38 => ?_) (fun c38 => ?_)
    · exact hQ _ _ _ _ hp hH hP hF hS
    · omega
  | succ jj ih =>
    intro t m wt v4 v5 v6 hp hwt hj hm hH hP hF hS
    have hL : rlN hp T 225 := rlN_fr hL0 (r_fr hF rfl) (fun _ => r_fr hF rfl) (fun _ => r_fr hF rfl) (fun _ => r_fr hF rfl) (fun _ => r_fr hF rfl)
    have L1 := hL.1
    obtain ⟨k, x, y, z, -, q2, q3, q4, q5, q6, q7, q8, -⟩ := dP_next (B := fun _ => true) hT (t := t) (by omega) hm
    obtain ⟨o1, o2, o3⟩ := rl_at hT hL (t := t) (by omega) q2 q3 q4
    refine xild 34 ⟨u281, _, rfl⟩ rfl rfl ?_
    refine xald 35 ⟨u281, _, rfl⟩ rfl rfl ?_
    refine xgetI 38 hH ⟨u281, _, rfl⟩ rfl rfl (fun z35 h35 => ?_)
    refine xcmp_ge 41 ⟨u281, _, rfl⟩ rfl (fun c38 => ?_) (fun c38 => ?_)
    · omega
    · refine xald 42 ⟨u281, _, rfl⟩ rfl rfl ?_
      refine xald 43 ⟨u281, _, rfl⟩ rfl rfl ?_
      refine xgetR 46 72 hH ⟨u281, _, rfl⟩ rfl rfl ?_
      refine xild 47 ⟨u281, _, rfl⟩ rfl rfl ?_
      refine xiald 48 (wt).toInt.toNat hH ⟨u281, _, rfl⟩ rfl (by decide) rfl (by omega) (by omega) (fun z47 h47 => ?_)
      refine xald 49 ⟨u281, _, rfl⟩ rfl rfl ?_
      refine xgetR 52 73 hH ⟨u281, _, rfl⟩ rfl rfl ?_
      refine xild 53 ⟨u281, _, rfl⟩ rfl rfl ?_
      refine xiald 54 (wt).toInt.toNat hH ⟨u281, _, rfl⟩ rfl (by decide) rfl (by omega) (by omega) (fun z53 h53 => ?_)
      refine xald 55 ⟨u281, _, rfl⟩ rfl rfl ?_
      refine xgetR 58 74 hH ⟨u281, _, rfl⟩ rfl rfl ?_
      refine xild 59 ⟨u281, _, rfl⟩ rfl rfl ?_
      refine xiald 60 (wt).toInt.toNat hH ⟨u281, _, rfl⟩ rfl (by decide) rfl (by omega) (by omega) (fun z59 h59 => ?_)
      refine xcall 63 [.ref 66, .int _, .int _, .int _] [] hH ⟨u281, _, rfl⟩ rfl rfl rfl rfl rfl (k_tkR hH hP hS.1 (x := x) (y := y) (z := z) (by rw [h47, show wt.toInt.toNat = t by omega]; exact o1) (by rw [h53, show wt.toInt.toNat = t by omega]; exact o2) (by rw [h59, show wt.toInt.toNat = t by omega]; exact o3) q7 (fun hp60 hH60 P60 F60 C60 => ⟨_, rfl, ?_⟩))
      have S60 := rfS_67 hS F60 C60
      refine xinc 66 (1) ⟨u281, _, rfl⟩ rfl rfl rfl (by decide) (by omega) (by omega) (fun z63 h63 => ?_)
      refine xgoto ⟨u281, _, rfl⟩ ?_
      exact ih (t + 1) (k + 1) _ _ _ _ hp60 (by omega) (by omega) q6 hH60 P60 (hF.trans F60) (by rw [q8 rfl]; exact S60)
theorem l281b {d V n x0 : Nat} {h : Nat → sR} {sv : Option sR} {T : sT} {ty : Nat → Int} {hp0 : amH} {R : xQ} {a : Int32} (hT : sOk V T) (hL0 : rlN hp0 T 225) (hK0 : ∀ u v, u < 15 → v < 15 → rN hp0 68 (4 + 15 * u + v) = T u v) (ha : bv a.toInt (V : Int) = (x0 : Int)) (hx0 : x0 < V)
    (hR : ∀ (w : Int32) hp1, bHk 84 bTT hp1 → P0 hp1 → bFr [(67, 999)] hp0 hp1 → rfS hp1 (V, pG (tn V x0) T 225, ty) n h sv → w.toInt = ((hC (tn V x0) T 225 : Nat) : Int) → R (.inl (some (.int w))) hp1) :
    ∀ (jj t m : Nat) (w wt : Int32) (v4 v5 v6 : Option Value) (hp : amH), wt.toInt = (t : Int) → t + jj = (trL T 225).length → (trL T m).length = t → bHk 84 bTT hp → P0 hp → bFr [(67, 999)] hp0 hp → rfS hp (V, pG (tn V x0) T m, ty) n h sv → w.toInt = ((hC (tn V x0) T m : Nat) : Int) → w.toInt ≤ (t : Int) → xV (d + 4) am_m281 71 [some (.ref 66), some (.int a), some (.int w), some (.int wt), v4, v5, v6] [] hp R := by
  have l35 := trL_35 hT 225
  have hV := hT.2.1
  have hs := sPm_tn hx0
  intro jj
  induction jj with
  | zero =>
    intro t m w wt v4 v5 v6 hp hwt hj hm hH hP hF hS hw hge
    have L1 : rN hp 66 12 = (((trL T 225).length : Nat) : Int) := (r_fr hF rfl).trans hL0.1
    have eT : pG (tn V x0) T m = pG (tn V x0) T 225 := pG_eq (by omega)
    have eC : hC (tn V x0) T m = hC (tn V x0) T 225 := hC_eq (by omega)
    rw [eT] at hS
    rw [eC] at hw
    refine xild 72 ⟨u281, _, rfl⟩ rfl rfl ?_
    refine xald 73 ⟨u281, _, rfl⟩ rfl rfl ?_
    refine xgetI 76 hH ⟨u281, _, rfl⟩ rfl rfl (fun z73 h73 => ?_)
    refine xcmp_ge 79 ⟨u281, _, rfl⟩ rfl (fun c76 => ?_) (fun c76 => ?_)
    · refine xild 175 ⟨u281, _, rfl⟩ rfl rfl ?_
      exact xret ⟨u281, _, rfl⟩ rfl (hR _ hp hH hP hF hS hw)
    · omega
  | succ jj ih =>
    intro t m w wt v4 v5 v6 hp hwt hj hm hH hP hF hS hw hge
    have hL : rlN hp T 225 := rlN_fr hL0 (r_fr hF rfl) (fun _ => r_fr hF rfl) (fun _ => r_fr hF rfl) (fun _ => r_fr hF rfl) (fun _ => r_fr hF rfl)
    have L1 := hL.1
    have bV : rN hp 67 0 = (V : Int) := hS.1.1
    obtain ⟨k, u, v, z, q1, q2, q3, q4, q5, -, -, -, q6, q7, q8, q9⟩ := mv_next hT hs (t := t) (by omega) hm
    obtain ⟨o1, o2, o3⟩ := rl_at hT hL (t := t) (by omega) q1 q2 q3
    have bu := hs.1 u (by omega)
    have bv' := hs.1 v (by omega)
    have bz := hs.1 z (by omega)
    have nuv : ¬ tn V x0 u = tn V x0 v := fun k => by have := hs.2.1 _ _ (by omega) (by omega) k; omega
    have nvz : ¬ tn V x0 v = tn V x0 z := fun k => by have := hs.2.1 _ _ (by omega) (by omega) k; omega
    have nuz : ¬ tn V x0 u = tn V x0 z := fun k => by have := hs.2.1 _ _ (by omega) (by omega) k; omega
    refine xild 72 ⟨u281, _, rfl⟩ rfl rfl ?_
    refine xald 73 ⟨u281, _, rfl⟩ rfl rfl ?_
    refine xgetI 76 hH ⟨u281, _, rfl⟩ rfl rfl (fun z73 h73 => ?_)
    refine xcmp_ge 79 ⟨u281, _, rfl⟩ rfl (fun c76 => ?_) (fun c76 => ?_)
    · omega
    · refine xald 80 ⟨u281, _, rfl⟩ rfl rfl ?_
      refine xald 81 ⟨u281, _, rfl⟩ rfl rfl ?_
      refine xgetR 84 72 hH ⟨u281, _, rfl⟩ rfl rfl ?_
      refine xild 85 ⟨u281, _, rfl⟩ rfl rfl ?_
      refine xiald 86 (wt).toInt.toNat hH ⟨u281, _, rfl⟩ rfl (by decide) rfl (by omega) (by omega) (fun z85 h85 => ?_)
      refine xald 87 ⟨u281, _, rfl⟩ rfl rfl ?_
      refine xild 88 ⟨u281, _, rfl⟩ rfl rfl ?_
      refine xcall 91 [.ref 66, .int _] [.int _, .ref 66] hH ⟨u281, _, rfl⟩ rfl rfl rfl rfl rfl (k_by hH hP (fun z88 h88 => ⟨_, rfl, ?_⟩))
      rw [bV, ha] at h88
      refine xcall 94 [.ref 66, .int _, .int _] [] hH ⟨u281, _, rfl⟩ rfl rfl rfl rfl rfl (k_rtrn hH hP (rowOk_rd hS.1) (x := u) (k := x0) (by rw [h85, show wt.toInt.toNat = t by omega]; exact o1) h88 (by show u < V; omega) hx0 (fun z91 h91 => ⟨_, rfl, ?_⟩))
      have h91 : z91.toInt = ((tn V x0 u : Nat) : Int) := h91
      refine xist2 96 ⟨u281, _, rfl⟩ rfl rfl ?_
      refine xald 97 ⟨u281, _, rfl⟩ rfl rfl ?_
      refine xald 98 ⟨u281, _, rfl⟩ rfl rfl ?_
      refine xgetR 101 73 hH ⟨u281, _, rfl⟩ rfl rfl ?_
      refine xild 102 ⟨u281, _, rfl⟩ rfl rfl ?_
      refine xiald 103 (wt).toInt.toNat hH ⟨u281, _, rfl⟩ rfl (by decide) rfl (by omega) (by omega) (fun z102 h102 => ?_)
      refine xald 104 ⟨u281, _, rfl⟩ rfl rfl ?_
      refine xild 105 ⟨u281, _, rfl⟩ rfl rfl ?_
      refine xcall 108 [.ref 66, .int _] [.int _, .ref 66] hH ⟨u281, _, rfl⟩ rfl rfl rfl rfl rfl (k_by hH hP (fun z105 h105 => ⟨_, rfl, ?_⟩))
      rw [bV, ha] at h105
      refine xcall 111 [.ref 66, .int _, .int _] [] hH ⟨u281, _, rfl⟩ rfl rfl rfl rfl rfl (k_rtrn hH hP (rowOk_rd hS.1) (x := v) (k := x0) (by rw [h102, show wt.toInt.toNat = t by omega]; exact o2) h105 (by show v < V; omega) hx0 (fun z108 h108 => ⟨_, rfl, ?_⟩))
      have h108 : z108.toInt = ((tn V x0 v : Nat) : Int) := h108
      refine xist2 113 ⟨u281, _, rfl⟩ rfl rfl ?_
      refine xald 114 ⟨u281, _, rfl⟩ rfl rfl ?_
      refine xald 115 ⟨u281, _, rfl⟩ rfl rfl ?_
      refine xgetR 118 74 hH ⟨u281, _, rfl⟩ rfl rfl ?_
      refine xild 119 ⟨u281, _, rfl⟩ rfl rfl ?_
      refine xiald 120 (wt).toInt.toNat hH ⟨u281, _, rfl⟩ rfl (by decide) rfl (by omega) (by omega) (fun z119 h119 => ?_)
      refine xald 121 ⟨u281, _, rfl⟩ rfl rfl ?_
      refine xild 122 ⟨u281, _, rfl⟩ rfl rfl ?_
      refine xcall 125 [.ref 66, .int _] [.int _, .ref 66] hH ⟨u281, _, rfl⟩ rfl rfl rfl rfl rfl (k_by hH hP (fun z122 h122 => ⟨_, rfl, ?_⟩))
      rw [bV, ha] at h122
      refine xcall 128 [.ref 66, .int _, .int _] [] hH ⟨u281, _, rfl⟩ rfl rfl rfl rfl rfl (k_rtrn hH hP (rowOk_rd hS.1) (x := z) (k := x0) (by rw [h119, show wt.toInt.toNat = t by omega]; exact o3) h122 (by show z < V; omega) hx0 (fun z125 h125 => ⟨_, rfl, ?_⟩))
      have h125 : z125.toInt = ((tn V x0 z : Nat) : Int) := h125
      refine xist2 130 ⟨u281, _, rfl⟩ rfl rfl ?_
      refine xald 131 ⟨u281, _, rfl⟩ rfl rfl ?_
      refine xild2 133 ⟨u281, _, rfl⟩ rfl rfl ?_
      refine xild2 135 ⟨u281, _, rfl⟩ rfl rfl ?_
      refine xild2 137 ⟨u281, _, rfl⟩ rfl rfl ?_
      refine xcall 140 [.ref 66, .int _, .int _, .int _] [] hH ⟨u281, _, rfl⟩ rfl rfl rfl rfl rfl (k_ptR hH hP hS.1 (x := tn V x0 u) (y := tn V x0 v) (z := tn V x0 z) h91 h108 h125 bu bv' bz nuv nvz nuz q8 (fun hp137 hH137 P137 F137 C137 => ⟨_, rfl, ?_⟩))
      have S137 := rfS_67 hS F137 C137
      refine xild 141 ⟨u281, _, rfl⟩ rfl rfl ?_
      refine xald 142 ⟨u281, _, rfl⟩ rfl rfl ?_
      refine xgetR 145 68 hH137 ⟨u281, _, rfl⟩ rfl rfl ?_
      refine xcst 146 (4) ⟨u281, _, rfl⟩ rfl (by decide) (fun z145 h145 => ?_)
      refine xbip 148 (15) ⟨u281, _, rfl⟩ rfl (by decide) (fun z146 h146 => ?_)
      refine xild2 150 ⟨u281, _, rfl⟩ rfl rfl ?_
      refine xmul 151 (15 * Int32.toInt z91) ⟨u281, _, rfl⟩ rfl (by rw [h146]) (by omega) (by omega) (fun z150 h150 => ?_)
      refine xadd 152 _ ⟨u281, _, rfl⟩ rfl rfl (by omega) (by omega) (fun z151 h151 => ?_)
      refine xild2 154 ⟨u281, _, rfl⟩ rfl rfl ?_
      refine xadd 155 _ ⟨u281, _, rfl⟩ rfl rfl (by omega) (by omega) (fun z154 h154 => ?_)
      refine xiald 156 (z154).toInt.toNat hH137 ⟨u281, _, rfl⟩ rfl (by decide) rfl (by omega) (by omega) (fun z155 h155 => ?_)
      have kk : z155.toInt = T (tn V x0 u) (tn V x0 v) := by
        rw [h155, show z154.toInt.toNat = 4 + 15 * tn V x0 u + tn V x0 v by omega, show rN hp137 68 (4 + 15 * tn V x0 u + tn V x0 v) = rN hp 68 (4 + 15 * tn V x0 u + tn V x0 v) from r_fr F137 rfl, show rN hp 68 (4 + 15 * tn V x0 u + tn V x0 v) = rN hp0 68 (4 + 15 * tn V x0 u + tn V x0 v) from r_fr hF rfl]
        exact hK0 _ _ (by omega) (by omega)
      refine xild2 158 ⟨u281, _, rfl⟩ rfl rfl ?_
      refine xcmp_ne 161 ⟨u281, _, rfl⟩ rfl (fun c158 => ?_) (fun c158 => ?_)
      · refine xcst 166 (0) ⟨u281, _, rfl⟩ rfl (by decide) (fun z165 h165 => ?_)
        refine xadd 167 _ ⟨u281, _, rfl⟩ rfl rfl (by omega) (by omega) (fun z166 h166 => ?_)
        refine xist 168 ⟨u281, _, rfl⟩ rfl rfl ?_
        refine xinc 171 (1) ⟨u281, _, rfl⟩ rfl rfl rfl (by decide) (by omega) (by omega) (fun z168 h168 => ?_)
        refine xgoto ⟨u281, _, rfl⟩ ?_
        have hc : hC (tn V x0) T (k + 1) = hC (tn V x0) T m + 0 := by
          rw [q9, if_neg (by omega)]
        exact ih (t + 1) (k + 1) _ _ _ _ _ hp137 (by omega) (by omega) q6 hH137 P137 (hF.trans F137) (by rw [q7]; exact S137) (by rw [hc]; omega) (by omega)
      · refine xcst 162 (1) ⟨u281, _, rfl⟩ rfl (by decide) (fun z161 h161 => ?_)
        refine xgoto ⟨u281, _, rfl⟩ ?_
        refine xadd 167 _ ⟨u281, _, rfl⟩ rfl rfl (by omega) (by omega) (fun z166 h166 => ?_)
        refine xist 168 ⟨u281, _, rfl⟩ rfl rfl ?_
        refine xinc 171 (1) ⟨u281, _, rfl⟩ rfl rfl rfl (by decide) (by omega) (by omega) (fun z168 h168 => ?_)
        refine xgoto ⟨u281, _, rfl⟩ ?_
        have hc : hC (tn V x0) T (k + 1) = hC (tn V x0) T m + 1 := by
          rw [q9, if_pos (by omega)]
        exact ih (t + 1) (k + 1) _ _ _ _ _ hp137 (by omega) (by omega) q6 hH137 P137 (hF.trans F137) (by rw [q7]; exact S137) (by rw [hc]; omega) (by omega)
theorem k_281E {d V n : Nat} {h : Nat → sR} {sv : Option sR} {T : sT} {ty : Nat → Int} {hp : amH} {R : xQ} {a : Int32} (hH : bHk 84 bTT hp) (hP : P0 hp) (hS : rfS hp (V, T, ty) n h sv)
    (hR : ∀ (z : Int32) hp1, bHk 84 bTT hp1 → P0 hp1 → bFr wM hp hp1 → rfS hp1 (V, pG (tn V (bv a.toInt (V : Int)).toNat) T 225, ty) (pM n + 1) (pH n h (V, T, ty)) sv → z.toInt = ((hC (tn V (bv a.toInt (V : Int)).toNat) T 225 : Nat) : Int) → R (.inl (some (.int z))) hp1) : xK (d + 4) 281 [.ref 66, .int a] hp R := by
  have hT : sOk V T := hS.1.2.1
  have hV3 := hT.1
  have bi := bv_in (k := a.toInt) (p := (V : Int)) (by omega)
  refine xin (M := am_m281) rfl rfl rfl ?_
  refine xald 1 ⟨u281, _, rfl⟩ rfl rfl ?_
  refine xcst 2 (0) ⟨u281, _, rfl⟩ rfl (by decide) (fun z1 h1 => ?_)
  refine xputI 5 hH ⟨u281, _, rfl⟩ rfl rfl ⟨rfl, rfl⟩ (by omega) (by omega) (fun hp2 hH2 U2 => ?_)
  have s2 := U2.1
  refine xald 6 ⟨u281, _, rfl⟩ rfl rfl ?_
  refine xcall 9 [.ref 66] [] hH2 ⟨u281, _, rfl⟩ rfl rfl rfl rfl rfl (k_rmS hH2 (P0_W (W := [(66, 7)]) (by decide) (rU_fr U2 rfl) hP) (rfS_W (W := [(66, 7)]) hS (rU_fr U2 rfl) (fun _ => rfl) rfl rfl (fun _ => rfl) (fun _ => rfl)) (fun hp6 hH6 P6 F6 S6 => ⟨_, rfl, ?_⟩))
  refine xald 10 ⟨u281, _, rfl⟩ rfl rfl ?_
  refine xcall 13 [.ref 66] [] hH6 ⟨u281, _, rfl⟩ rfl rfl rfl rfl rfl (k_rlst hH6 (V := V) (T := T) (rowOk_rd S6.1) (fun hp10 hH10 F10 B10 L10 => ⟨_, rfl, ?_⟩))
  have S10 := rfS_W S6 F10 (fun _ => rfl) rfl rfl (fun _ => rfl) (fun _ => rfl)
  have P10 : P0 hp10 := P0_W (W := bLT) (by decide) F10 P6
  refine xcst 14 (0) ⟨u281, _, rfl⟩ rfl (by decide) (fun z13 h13 => ?_)
  refine xist 15 ⟨u281, _, rfl⟩ rfl rfl ?_
  refine xald 16 ⟨u281, _, rfl⟩ rfl rfl ?_
  refine xgetR 19 67 hH10 ⟨u281, _, rfl⟩ rfl rfl ?_
  refine xcst 20 (4) ⟨u281, _, rfl⟩ rfl (by decide) (fun z19 h19 => ?_)
  refine xald 21 ⟨u281, _, rfl⟩ rfl rfl ?_
  refine xgetR 24 68 hH10 ⟨u281, _, rfl⟩ rfl rfl ?_
  refine xcst 25 (4) ⟨u281, _, rfl⟩ rfl (by decide) (fun z24 h24 => ?_)
  refine xsip 28 (225) ⟨u281, _, rfl⟩ rfl (by decide) (fun z25 h25 => ?_)
  refine xcallS 31 [.ref 67, .int _, .ref 68, .int _, .int _] [] hH10 ⟨u281, _, rfl⟩ rfl rfl rfl rfl rfl (k_copy 4 4 225 hH10 (by decide) (by decide) (by decide) rfl rfl (by omega) (by omega) (by omega) (by omega) (by omega) (by decide) (fun hp28 hH28 F28 E28 => ⟨_, rfl, ?_⟩))
  have S28 := rfS_W S10 F28 (fun _ => rfl) rfl rfl (fun _ => rfl) (fun _ => rfl)
  have P28 : P0 hp28 := P0_68 F28 P10
  have L28 : rlN hp28 T 225 := rlN_fr L10 (r_fr F28 rfl) (fun _ => r_fr F28 rfl) (fun _ => r_fr F28 rfl) (fun _ => r_fr F28 rfl) (fun _ => r_fr F28 rfl)
  have K28 : ∀ u v, u < 15 → v < 15 → rN hp28 68 (4 + 15 * u + v) = T u v := fun u v hu hv => by
    rw [E28 _ (by omega), if_pos (by omega), show 4 + (4 + 15 * u + v - 4) = 4 + 15 * u + v by omega]
    exact S10.1.2.2.1 u v hu hv
  refine xcst 32 (0) ⟨u281, _, rfl⟩ rfl (by decide) (fun z31 h31 => ?_)
  refine xist 33 ⟨u281, _, rfl⟩ rfl rfl ?_
  refine xpad 3 ?_
  refine l281a (V := V) (T := T) (ty := ty) (n := pM n + 1) (h := pH n h (V, T, ty)) (sv := sv) hT L28 (fun wt1 v4 v5 v6 hp1 hH1 P1 F1 S1 => ?_) (trL T 225).length 0 0 _ _ _ _ hp28 (by omega) (by omega) rfl hH28 P28 (bFr.refl _ _) S28
  refine xcst 70 (0) ⟨u281, _, rfl⟩ rfl (by decide) (fun z69 h69 => ?_)
  refine xist 71 ⟨u281, _, rfl⟩ rfl rfl ?_
  exact l281b (x0 := (bv a.toInt (V : Int)).toNat) hT (rlN_fr L28 (r_fr F1 rfl) (fun _ => r_fr F1 rfl) (fun _ => r_fr F1 rfl) (fun _ => r_fr F1 rfl) (fun _ => r_fr F1 rfl)) (fun u v hu hv => (r_fr F1 rfl).trans (K28 u v hu hv)) (by omega) (by omega) (fun w hp2 q1 q2 q3 q4 q5 => hR w hp2 q1 q2 ((((((rU_fr U2 (by decide)).trans (bFr_sub F6 (by decide))).trans (bFr_sub F10 (by decide))).trans (bFr_sub F28 (by decide))).trans (bFr_sub F1 (by decide))).trans (bFr_sub q3 (by decide))) q4 q5) (trL T 225).length 0 0 _ _ _ _ _ hp1 (by omega) (by omega) rfl hH1 P1 (bFr.refl _ _) S1 (by rw [h13]; rfl) (by omega)
