/-! ===== the reference swaps two points: all taken ===== -/
theorem dP_all {V : Nat} {T : sT} (hT : sOk V T) : dP (fun _ => true) T 225 = sE := by
  funext u v
  rcases (dP_s (B := fun _ => true) hT 225).2 u v with ⟨a, -⟩ | ⟨a, b, c⟩
  · exact a
  · exact absurd ⟨cd_lt hT b, rfl⟩ c
/-- the rows of the triple numbered t -/
theorem rl_at {V : Nat} {T : sT} {hp : amH} (hT : sOk V T) (hL : rlN hp T 225) {t : Nat} (ht : t < (trL T 225).length) {x y z : Nat} (e : mN T t = m3 x y z) (h1 : x < y) (h2 : y < z) : rN hp 72 t = (x : Int) ∧ rN hp 73 t = (y : Int) ∧ rN hp 74 t = (z : Int) := by
  obtain ⟨g1, -, -⟩ := trL_get 225 t ht
  obtain ⟨w, ew, k1, k2, k3⟩ := tr_pts hT g1
  have em : mN T t = m3 ((trL T 225).getD t 0 / 15) ((trL T 225).getD t 0 % 15) w := by unfold mN mk3; rw [ew, Int.toNat_natCast]
  obtain ⟨i1, i2, i3⟩ := m3_inj (em.symm.trans e) k1 k2 h1 h2
  obtain ⟨o1, o2, o3, -⟩ := hL.2 t ht
  rw [ew] at o3
  exact ⟨by rw [o1, i1], by rw [o2, i2], by rw [o3, i3]⟩
theorem l279a {d V n : Nat} {h : Nat → sR} {sv : Option sR} {T : sT} {ty : Nat → Int} {hp0 : amH} {R : xQ} {a b w : Int32} (hT : sOk V T) (hL0 : rlN hp0 T 225)
    (hQ : ∀ (wt : Int32) (v5 v6 v7 : Option Value) hp1, bHk 84 bTT hp1 → P0 hp1 → bFr [(67, 999)] hp0 hp1 → rfS hp1 (V, sE, ty) n h sv → xV (d + 4) am_m279 80 [some (.ref 66), some (.int a), some (.int b), some (.int w), some (.int wt), v5, v6, v7] [] hp1 R) :
    ∀ (jj t m : Nat) (wt : Int32) (v5 v6 v7 : Option Value) (hp : amH), wt.toInt = (t : Int) → t + jj = (trL T 225).length → (trL T m).length = t → bHk 84 bTT hp → P0 hp → bFr [(67, 999)] hp0 hp → rfS hp (V, dP (fun _ => true) T m, ty) n h sv → xV (d + 4) am_m279 40 [some (.ref 66), some (.int a), some (.int b), some (.int w), some (.int wt), v5, v6, v7] [] hp R := by
  have l35 := trL_35 hT 225
  intro jj
  induction jj with
  | zero =>
    intro t m wt v5 v6 v7 hp hwt hj hm hH hP hF hS
    have L1 : rN hp 66 12 = (((trL T 225).length : Nat) : Int) := (r_fr hF rfl).trans hL0.1
    have eT : dP (fun _ => true) T m = sE := (dP_eq (by omega)).trans (dP_all hT)
    rw [eT] at hS
    refine xild2 42 ⟨u279, _, rfl⟩ rfl rfl ?_
    refine xald 43 ⟨u279, _, rfl⟩ rfl rfl ?_
    refine xgetI 46 hH ⟨u279, _, rfl⟩ rfl rfl (fun z43 h43 => ?_)
    refine xcmp_ge 49 ⟨u279, _, rfl⟩ rfl (fun c46 => ?_) (fun c46 => ?_)
    · exact hQ _ _ _ _ hp hH hP hF hS
    · omega
  | succ jj ih =>
    intro t m wt v5 v6 v7 hp hwt hj hm hH hP hF hS
    have hL : rlN hp T 225 := rlN_fr hL0 (r_fr hF rfl) (fun _ => r_fr hF rfl) (fun _ => r_fr hF rfl) (fun _ => r_fr hF rfl) (fun _ => r_fr hF rfl)
    have L1 := hL.1
    obtain ⟨k, x, y, z, -, q2, q3, q4, q5, q6, q7, q8, -⟩ := dP_next (B := fun _ => true) hT (t := t) (by omega) hm
    obtain ⟨o1, o2, o3⟩ := rl_at hT hL (t := t) (by omega) q2 q3 q4
    refine xild2 42 ⟨u279, _, rfl⟩ rfl rfl ?_
    refine xald 43 ⟨u279, _, rfl⟩ rfl rfl ?_
    refine xgetI 46 hH ⟨u279, _, rfl⟩ rfl rfl (fun z43 h43 => ?_)
    refine xcmp_ge 49 ⟨u279, _, rfl⟩ rfl (fun c46 => ?_) (fun c46 => ?_)
    · omega
    · refine xald 50 ⟨u279, _, rfl⟩ rfl rfl ?_
      refine xald 51 ⟨u279, _, rfl⟩ rfl rfl ?_
      refine xgetR 54 72 hH ⟨u279, _, rfl⟩ rfl rfl ?_
      refine xild2 56 ⟨u279, _, rfl⟩ rfl rfl ?_
      refine xiald 57 (wt).toInt.toNat hH ⟨u279, _, rfl⟩ rfl (by decide) rfl (by omega) (by omega) (fun z56 h56 => ?_)
      refine xald 58 ⟨u279, _, rfl⟩ rfl rfl ?_
      refine xgetR 61 73 hH ⟨u279, _, rfl⟩ rfl rfl ?_
      refine xild2 63 ⟨u279, _, rfl⟩ rfl rfl ?_
      refine xiald 64 (wt).toInt.toNat hH ⟨u279, _, rfl⟩ rfl (by decide) rfl (by omega) (by omega) (fun z63 h63 => ?_)
      refine xald 65 ⟨u279, _, rfl⟩ rfl rfl ?_
      refine xgetR 68 74 hH ⟨u279, _, rfl⟩ rfl rfl ?_
      refine xild2 70 ⟨u279, _, rfl⟩ rfl rfl ?_
      refine xiald 71 (wt).toInt.toNat hH ⟨u279, _, rfl⟩ rfl (by decide) rfl (by omega) (by omega) (fun z70 h70 => ?_)
      refine xcall 74 [.ref 66, .int _, .int _, .int _] [] hH ⟨u279, _, rfl⟩ rfl rfl rfl rfl rfl (k_tkR hH hP hS.1 (x := x) (y := y) (z := z) (by rw [h56, show wt.toInt.toNat = t by omega]; exact o1) (by rw [h63, show wt.toInt.toNat = t by omega]; exact o2) (by rw [h70, show wt.toInt.toNat = t by omega]; exact o3) q7 (fun hp71 hH71 P71 F71 C71 => ⟨_, rfl, ?_⟩))
      have S71 := rfS_67 hS F71 C71
      refine xinc 77 (1) ⟨u279, _, rfl⟩ rfl rfl rfl (by decide) (by omega) (by omega) (fun z74 h74 => ?_)
      refine xgoto ⟨u279, _, rfl⟩ ?_
      exact ih (t + 1) (k + 1) _ _ _ _ hp71 (by omega) (by omega) q6 hH71 P71 (hF.trans F71) (by rw [q8 rfl]; exact S71)
theorem l279b {d V n x0 y0 : Nat} {h : Nat → sR} {sv : Option sR} {T : sT} {ty : Nat → Int} {hp0 : amH} {R : xQ} {a b : Int32} (hT : sOk V T) (hL0 : rlN hp0 T 225) (hK0 : ∀ u v, u < 15 → v < 15 → rN hp0 68 (4 + 15 * u + v) = T u v) (ha : a.toInt = (x0 : Int)) (hb : b.toInt = (y0 : Int)) (hx0 : x0 < V) (hy0 : y0 < V)
    (hR : ∀ (w : Int32) hp1, bHk 84 bTT hp1 → P0 hp1 → bFr [(67, 999)] hp0 hp1 → rfS hp1 (V, pG (sw x0 y0) T 225, ty) n h sv → w.toInt + ((hC (sw x0 y0) T 225 : Nat) : Int) = (((trL T 225).length : Nat) : Int) → R (.inl (some (.int w))) hp1) :
    ∀ (jj t m : Nat) (w wt : Int32) (v5 v6 v7 : Option Value) (hp : amH), wt.toInt = (t : Int) → t + jj = (trL T 225).length → (trL T m).length = t → bHk 84 bTT hp → P0 hp → bFr [(67, 999)] hp0 hp → rfS hp (V, pG (sw x0 y0) T m, ty) n h sv → w.toInt + ((hC (sw x0 y0) T m : Nat) : Int) = (t : Int) → 0 ≤ w.toInt → xV (d + 4) am_m279 83 [some (.ref 66), some (.int a), some (.int b), some (.int w), some (.int wt), v5, v6, v7] [] hp R := by
  have l35 := trL_35 hT 225
  have hV := hT.2.1
  have hs := sPm_sw (V := V) hx0 hy0
  intro jj
  induction jj with
  | zero =>
    intro t m w wt v5 v6 v7 hp hwt hj hm hH hP hF hS hw hge
    have L1 : rN hp 66 12 = (((trL T 225).length : Nat) : Int) := (r_fr hF rfl).trans hL0.1
    have eT : pG (sw x0 y0) T m = pG (sw x0 y0) T 225 := pG_eq (by omega)
    have eC : hC (sw x0 y0) T m = hC (sw x0 y0) T 225 := hC_eq (by omega)
    rw [eT] at hS
    rw [eC] at hw
    refine xild2 85 ⟨u279, _, rfl⟩ rfl rfl ?_
    refine xald 86 ⟨u279, _, rfl⟩ rfl rfl ?_
    refine xgetI 89 hH ⟨u279, _, rfl⟩ rfl rfl (fun z86 h86 => ?_)
    refine xcmp_ge 92 ⟨u279, _, rfl⟩ rfl (fun c89 => ?_) (fun c89 => ?_)
    · refine xild 179 ⟨u279, _, rfl⟩ rfl rfl ?_
      exact xret ⟨u279, _, rfl⟩ rfl (hR _ hp hH hP hF hS (by omega))
    · omega
  | succ jj ih =>
    intro t m w wt v5 v6 v7 hp hwt hj hm hH hP hF hS hw hge
    have hL : rlN hp T 225 := rlN_fr hL0 (r_fr hF rfl) (fun _ => r_fr hF rfl) (fun _ => r_fr hF rfl) (fun _ => r_fr hF rfl) (fun _ => r_fr hF rfl)
    have L1 := hL.1
    obtain ⟨k, u, v, z, q1, q2, q3, q4, q5, -, -, -, q6, q7, q8, q9⟩ := mv_next hT hs (t := t) (by omega) hm
    obtain ⟨o1, o2, o3⟩ := rl_at hT hL (t := t) (by omega) q1 q2 q3
    have bu := hs.1 u (by omega)
    have bv := hs.1 v (by omega)
    have bz := hs.1 z (by omega)
    have nuv : ¬ sw x0 y0 u = sw x0 y0 v := fun k => by have := hs.2.1 _ _ (by omega) (by omega) k; omega
    have nvz : ¬ sw x0 y0 v = sw x0 y0 z := fun k => by have := hs.2.1 _ _ (by omega) (by omega) k; omega
    have nuz : ¬ sw x0 y0 u = sw x0 y0 z := fun k => by have := hs.2.1 _ _ (by omega) (by omega) k; omega
    have swI : ∀ (p r : Int32) (q : Nat), p.toInt = (q : Int) → (r.toInt = if p.toInt = a.toInt then b.toInt else if p.toInt = b.toInt then a.toInt else p.toInt) → r.toInt = ((sw x0 y0 q : Nat) : Int) := fun p r q hp e => by
      rw [e]
      have s := sw_ab (a := x0) (b := y0) (p := q)
      by_cases g : p.toInt = a.toInt
      · rw [if_pos g]; omega
      · rw [if_neg g]
        by_cases g2 : p.toInt = b.toInt
        · rw [if_pos g2]; omega
        · rw [if_neg g2]; omega
    refine xild2 85 ⟨u279, _, rfl⟩ rfl rfl ?_
    refine xald 86 ⟨u279, _, rfl⟩ rfl rfl ?_
    refine xgetI 89 hH ⟨u279, _, rfl⟩ rfl rfl (fun z86 h86 => ?_)
    refine xcmp_ge 92 ⟨u279, _, rfl⟩ rfl (fun c89 => ?_) (fun c89 => ?_)
    · omega
    · refine xald 93 ⟨u279, _, rfl⟩ rfl rfl ?_
      refine xgetR 96 72 hH ⟨u279, _, rfl⟩ rfl rfl ?_
      refine xild2 98 ⟨u279, _, rfl⟩ rfl rfl ?_
      refine xiald 99 (wt).toInt.toNat hH ⟨u279, _, rfl⟩ rfl (by decide) rfl (by omega) (by omega) (fun z98 h98 => ?_)
      refine xild 100 ⟨u279, _, rfl⟩ rfl rfl ?_
      refine xild 101 ⟨u279, _, rfl⟩ rfl rfl ?_
      refine xcallS 104 [.int _, .int _, .int _] [] hH ⟨u279, _, rfl⟩ rfl rfl rfl rfl rfl (k_swapped (fun z101 h101 => ⟨_, rfl, ?_⟩))
      have h101 := swI _ _ u (by rw [h98, show wt.toInt.toNat = t by omega]; exact o1) h101
      refine xist2 106 ⟨u279, _, rfl⟩ rfl rfl ?_
      refine xald 107 ⟨u279, _, rfl⟩ rfl rfl ?_
      refine xgetR 110 73 hH ⟨u279, _, rfl⟩ rfl rfl ?_
      refine xild2 112 ⟨u279, _, rfl⟩ rfl rfl ?_
      refine xiald 113 (wt).toInt.toNat hH ⟨u279, _, rfl⟩ rfl (by decide) rfl (by omega) (by omega) (fun z112 h112 => ?_)
      refine xild 114 ⟨u279, _, rfl⟩ rfl rfl ?_
      refine xild 115 ⟨u279, _, rfl⟩ rfl rfl ?_
      refine xcallS 118 [.int _, .int _, .int _] [] hH ⟨u279, _, rfl⟩ rfl rfl rfl rfl rfl (k_swapped (fun z115 h115 => ⟨_, rfl, ?_⟩))
      have h115 := swI _ _ v (by rw [h112, show wt.toInt.toNat = t by omega]; exact o2) h115
      refine xist2 120 ⟨u279, _, rfl⟩ rfl rfl ?_
      refine xald 121 ⟨u279, _, rfl⟩ rfl rfl ?_
      refine xgetR 124 74 hH ⟨u279, _, rfl⟩ rfl rfl ?_
      refine xild2 126 ⟨u279, _, rfl⟩ rfl rfl ?_
      refine xiald 127 (wt).toInt.toNat hH ⟨u279, _, rfl⟩ rfl (by decide) rfl (by omega) (by omega) (fun z126 h126 => ?_)
      refine xild 128 ⟨u279, _, rfl⟩ rfl rfl ?_
      refine xild 129 ⟨u279, _, rfl⟩ rfl rfl ?_
      refine xcallS 132 [.int _, .int _, .int _] [] hH ⟨u279, _, rfl⟩ rfl rfl rfl rfl rfl (k_swapped (fun z129 h129 => ⟨_, rfl, ?_⟩))
      have h129 := swI _ _ z (by rw [h126, show wt.toInt.toNat = t by omega]; exact o3) h129
      refine xist2 134 ⟨u279, _, rfl⟩ rfl rfl ?_
      refine xald 135 ⟨u279, _, rfl⟩ rfl rfl ?_
      refine xild2 137 ⟨u279, _, rfl⟩ rfl rfl ?_
      refine xild2 139 ⟨u279, _, rfl⟩ rfl rfl ?_
      refine xild2 141 ⟨u279, _, rfl⟩ rfl rfl ?_
      refine xcall 144 [.ref 66, .int _, .int _, .int _] [] hH ⟨u279, _, rfl⟩ rfl rfl rfl rfl rfl (k_ptR hH hP hS.1 (x := sw x0 y0 u) (y := sw x0 y0 v) (z := sw x0 y0 z) h101 h115 h129 bu bv bz nuv nvz nuz q8 (fun hp141 hH141 P141 F141 C141 => ⟨_, rfl, ?_⟩))
      have S141 := rfS_67 hS F141 C141
      refine xild 145 ⟨u279, _, rfl⟩ rfl rfl ?_
      refine xald 146 ⟨u279, _, rfl⟩ rfl rfl ?_
      refine xgetR 149 68 hH141 ⟨u279, _, rfl⟩ rfl rfl ?_
      refine xcst 150 (4) ⟨u279, _, rfl⟩ rfl (by decide) (fun z149 h149 => ?_)
      refine xbip 152 (15) ⟨u279, _, rfl⟩ rfl (by decide) (fun z150 h150 => ?_)
      refine xild2 154 ⟨u279, _, rfl⟩ rfl rfl ?_
      refine xmul 155 (15 * Int32.toInt z101) ⟨u279, _, rfl⟩ rfl (by rw [h150]) (by omega) (by omega) (fun z154 h154 => ?_)
      refine xadd 156 _ ⟨u279, _, rfl⟩ rfl rfl (by omega) (by omega) (fun z155 h155 => ?_)
      refine xild2 158 ⟨u279, _, rfl⟩ rfl rfl ?_
      refine xadd 159 _ ⟨u279, _, rfl⟩ rfl rfl (by omega) (by omega) (fun z158 h158 => ?_)
      refine xiald 160 (z158).toInt.toNat hH141 ⟨u279, _, rfl⟩ rfl (by decide) rfl (by omega) (by omega) (fun z159 h159 => ?_)
      have kk : z159.toInt = T (sw x0 y0 u) (sw x0 y0 v) := by
        rw [h159, show z158.toInt.toNat = 4 + 15 * sw x0 y0 u + sw x0 y0 v by omega, show rN hp141 68 (4 + 15 * sw x0 y0 u + sw x0 y0 v) = rN hp 68 (4 + 15 * sw x0 y0 u + sw x0 y0 v) from r_fr F141 rfl, show rN hp 68 (4 + 15 * sw x0 y0 u + sw x0 y0 v) = rN hp0 68 (4 + 15 * sw x0 y0 u + sw x0 y0 v) from r_fr hF rfl]
        exact hK0 _ _ (by omega) (by omega)
      refine xild2 162 ⟨u279, _, rfl⟩ rfl rfl ?_
      refine xcmp_ne 165 ⟨u279, _, rfl⟩ rfl (fun c162 => ?_) (fun c162 => ?_)
      · refine xcst 170 (1) ⟨u279, _, rfl⟩ rfl (by decide) (fun z169 h169 => ?_)
        refine xadd 171 _ ⟨u279, _, rfl⟩ rfl rfl (by omega) (by omega) (fun z170 h170 => ?_)
        refine xist 172 ⟨u279, _, rfl⟩ rfl rfl ?_
        refine xinc 175 (1) ⟨u279, _, rfl⟩ rfl rfl rfl (by decide) (by omega) (by omega) (fun z172 h172 => ?_)
        refine xgoto ⟨u279, _, rfl⟩ ?_
        have hc : hC (sw x0 y0) T (k + 1) = hC (sw x0 y0) T m + 0 := by
          rw [q9, if_neg (by omega)]
        exact ih (t + 1) (k + 1) _ _ _ _ _ hp141 (by omega) (by omega) q6 hH141 P141 (hF.trans F141) (by rw [q7]; exact S141) (by rw [hc]; omega) (by omega)
      · refine xcst 166 (0) ⟨u279, _, rfl⟩ rfl (by decide) (fun z165 h165 => ?_)
        refine xgoto ⟨u279, _, rfl⟩ ?_
        refine xadd 171 _ ⟨u279, _, rfl⟩ rfl rfl (by omega) (by omega) (fun z170 h170 => ?_)
        refine xist 172 ⟨u279, _, rfl⟩ rfl rfl ?_
        refine xinc 175 (1) ⟨u279, _, rfl⟩ rfl rfl rfl (by decide) (by omega) (by omega) (fun z172 h172 => ?_)
        refine xgoto ⟨u279, _, rfl⟩ ?_
        have hc : hC (sw x0 y0) T (k + 1) = hC (sw x0 y0) T m + 1 := by
          rw [q9, if_pos (by omega)]
        exact ih (t + 1) (k + 1) _ _ _ _ _ hp141 (by omega) (by omega) q6 hH141 P141 (hF.trans F141) (by rw [q7]; exact S141) (by rw [hc]; omega) (by omega)
theorem k_279E {d V n : Nat} {h : Nat → sR} {sv : Option sR} {T : sT} {ty : Nat → Int} {hp : amH} {R : xQ} {a b : Int32} (hH : bHk 84 bTT hp) (hP : P0 hp) (hS : rfS hp (V, T, ty) n h sv)
    (hR : ∀ (z : Int32) hp1, bHk 84 bTT hp1 → P0 hp1 → bFr wM hp hp1 → rN hp1 66 7 = gTwo V a.toInt b.toInt → ((¬ gTwo V a.toInt b.toInt = 0 ∧ rfS hp1 (V, T, ty) n h sv) ∨ (gTwo V a.toInt b.toInt = 0 ∧ rfS hp1 (V, pG (sw a.toInt.toNat b.toInt.toNat) T 225, ty) (pM n + 1) (pH n h (V, T, ty)) sv ∧ z.toInt + ((hC (sw a.toInt.toNat b.toInt.toNat) T 225 : Nat) : Int) = (((trL T 225).length : Nat) : Int))) → R (.inl (some (.int z))) hp1) : xK (d + 4) 279 [.ref 66, .int a, .int b] hp R := by
  have hT : sOk V T := hS.1.2.1
  have hV : V ≤ 15 := hT.2.1
  have hV0 : rN hp 67 0 = (V : Int) := hS.1.1
  refine xin (M := am_m279) rfl rfl rfl ?_
  refine xald 1 ⟨u279, _, rfl⟩ rfl rfl ?_
  refine xild 2 ⟨u279, _, rfl⟩ rfl rfl ?_
  refine xild 3 ⟨u279, _, rfl⟩ rfl rfl ?_
  refine xcall 6 [.ref 66, .int _, .int _] [] hH ⟨u279, _, rfl⟩ rfl rfl rfl rfl rfl (k_gp2 hH hV0 hV (fun z3 hp3 hH3 F3 t3 o3 => ⟨_, rfl, ?_⟩))
  have S3 := rfS_W hS F3 (fun _ => rfl) rfl rfl (fun _ => rfl) (fun _ => rfl)
  have P3 : P0 hp3 := P0_W (W := [(66, 7)]) (by decide) F3 hP
  refine xif_eq 9 ⟨u279, _, rfl⟩ rfl (fun c6 => ?_) (fun c6 => ?_)
  · have g2 : gTwo V a.toInt b.toInt = 0 := by omega
    have k2 := gTwo_0.mp g2
    refine xald 12 ⟨u279, _, rfl⟩ rfl rfl ?_
    refine xcall 15 [.ref 66] [] hH3 ⟨u279, _, rfl⟩ rfl rfl rfl rfl rfl (k_rmS hH3 P3 S3 (fun hp12 hH12 P12 F12 S12 => ⟨_, rfl, ?_⟩))
    refine xald 16 ⟨u279, _, rfl⟩ rfl rfl ?_
    refine xcall 19 [.ref 66] [] hH12 ⟨u279, _, rfl⟩ rfl rfl rfl rfl rfl (k_rlst hH12 (V := V) (T := T) (rowOk_rd S12.1) (fun hp16 hH16 F16 B16 L16 => ⟨_, rfl, ?_⟩))
    have S16 := rfS_W S12 F16 (fun _ => rfl) rfl rfl (fun _ => rfl) (fun _ => rfl)
    have P16 : P0 hp16 := P0_W (W := bLT) (by decide) F16 P12
    refine xcst 20 (0) ⟨u279, _, rfl⟩ rfl (by decide) (fun z19 h19 => ?_)
    refine xist 21 ⟨u279, _, rfl⟩ rfl rfl ?_
    refine xald 22 ⟨u279, _, rfl⟩ rfl rfl ?_
    refine xgetR 25 67 hH16 ⟨u279, _, rfl⟩ rfl rfl ?_
    refine xcst 26 (4) ⟨u279, _, rfl⟩ rfl (by decide) (fun z25 h25 => ?_)
    refine xald 27 ⟨u279, _, rfl⟩ rfl rfl ?_
    refine xgetR 30 68 hH16 ⟨u279, _, rfl⟩ rfl rfl ?_
    refine xcst 31 (4) ⟨u279, _, rfl⟩ rfl (by decide) (fun z30 h30 => ?_)
    refine xsip 34 (225) ⟨u279, _, rfl⟩ rfl (by decide) (fun z31 h31 => ?_)
    refine xcallS 37 [.ref 67, .int _, .ref 68, .int _, .int _] [] hH16 ⟨u279, _, rfl⟩ rfl rfl rfl rfl rfl (k_copy 4 4 225 hH16 (by decide) (by decide) (by decide) rfl rfl (by omega) (by omega) (by omega) (by omega) (by omega) (by decide) (fun hp34 hH34 F34 E34 => ⟨_, rfl, ?_⟩))
    have S34 := rfS_W S16 F34 (fun _ => rfl) rfl rfl (fun _ => rfl) (fun _ => rfl)
    have P34 : P0 hp34 := P0_68 F34 P16
    have L34 : rlN hp34 T 225 := rlN_fr L16 (r_fr F34 rfl) (fun _ => r_fr F34 rfl) (fun _ => r_fr F34 rfl) (fun _ => r_fr F34 rfl) (fun _ => r_fr F34 rfl)
    have K34 : ∀ u v, u < 15 → v < 15 → rN hp34 68 (4 + 15 * u + v) = T u v := fun u v hu hv => by
      rw [E34 _ (by omega), if_pos (by omega), show 4 + (4 + 15 * u + v - 4) = 4 + 15 * u + v by omega]
      exact S16.1.2.2.1 u v hu hv
    refine xcst 38 (0) ⟨u279, _, rfl⟩ rfl (by decide) (fun z37 h37 => ?_)
    refine xist2 40 ⟨u279, _, rfl⟩ rfl rfl ?_
    refine xpad 3 ?_
    refine l279a (V := V) (T := T) (ty := ty) (n := pM n + 1) (h := pH n h (V, T, ty)) (sv := sv) hT L34 (fun wt1 v5 v6 v7 hp1 hH1 P1 F1 S1 => ?_) (trL T 225).length 0 0 _ _ _ _ hp34 (by omega) (by omega) rfl hH34 P34 (bFr.refl _ _) S34
    refine xcst 81 (0) ⟨u279, _, rfl⟩ rfl (by decide) (fun z80 h80 => ?_)
    refine xist2 83 ⟨u279, _, rfl⟩ rfl rfl ?_
    exact l279b (x0 := a.toInt.toNat) (y0 := b.toInt.toNat) hT (rlN_fr L34 (r_fr F1 rfl) (fun _ => r_fr F1 rfl) (fun _ => r_fr F1 rfl) (fun _ => r_fr F1 rfl) (fun _ => r_fr F1 rfl)) (fun u v hu hv => (r_fr F1 rfl).trans (K34 u v hu hv)) (by omega) (by omega) (by omega) (by omega) (fun w hp2 q1 q2 q3 q4 q5 => hR w hp2 q1 q2 ((((((bFr_sub F3 (by decide)).trans (bFr_sub F12 (by decide))).trans (bFr_sub F16 (by decide))).trans (bFr_sub F34 (by decide))).trans (bFr_sub F1 (by decide))).trans (bFr_sub q3 (by decide))) (by rw [show rN hp2 66 7 = rN hp1 66 7 from r_fr q3 rfl, show rN hp1 66 7 = rN hp34 66 7 from r_fr F1 rfl, show rN hp34 66 7 = rN hp16 66 7 from r_fr F34 rfl, show rN hp16 66 7 = rN hp12 66 7 from r_fr F16 rfl, show rN hp12 66 7 = rN hp3 66 7 from r_fr F12 rfl]; exact t3) (Or.inr ⟨g2, q4, q5⟩)) (trL T 225).length 0 0 _ _ _ _ _ hp1 (by omega) (by omega) rfl hH1 P1 (bFr.refl _ _) S1 (by rw [h19]; rfl) (by omega)
  · refine xcst 10 (0) ⟨u279, _, rfl⟩ rfl (by decide) (fun z9 h9 => ?_)
    exact xret ⟨u279, _, rfl⟩ rfl (hR _ hp3 hH3 P3 (bFr_sub F3 (by decide)) t3 (Or.inl ⟨by omega, S3⟩))
