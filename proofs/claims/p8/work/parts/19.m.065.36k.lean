/-! ===== clear and force: the reference ===== -/
/-- the triples of the pairs of p with the points below k taken -/
def rcT (T : sT) (p : Nat) : Nat → sT
  | 0 => T
  | k + 1 => if k = p then rcT T p k else rmT (rcT T p k) p k
theorem len_rm {V : Nat} {T : sT} (hT : sOk V T) (x y : Nat) : (((trL T 225).length : Nat) : Int) = (((trL (rmT T x y) 225).length : Nat) : Int) + cvT T x y := by
  unfold rmT cvT
  by_cases h : T x y = -1
  · rw [if_pos h, if_pos h]; omega
  · rw [if_neg h, if_neg h]
    obtain ⟨w, ew, -⟩ := sOk_at hT rfl h
    have := len_take hT ew
    rw [ew, Int.toNat_natCast]
    omega
theorem l278E {d V p n : Nat} {h : Nat → sR} {sv : Option sR} {T : sT} {ty : Nat → Int} {hp0 : amH} {R : xQ} {a : Int32} (hV : V ≤ 15) (ha : a.toInt = (p : Int)) (hpV : p < V)
    (hR : ∀ (z : Int32) hp1, bHk 84 bTT hp1 → P0 hp1 → bFr [(67, 999)] hp0 hp1 → rfS hp1 (V, rcT T p V, ty) n h sv → z.toInt + (((trL (rcT T p V) 225).length : Nat) : Int) = (((trL T 225).length : Nat) : Int) → R (.inl (some (.int z))) hp1) :
    ∀ (jj k : Nat) (w wk : Int32) (hp : amH), wk.toInt = (k : Int) → k + jj = V → bHk 84 bTT hp → P0 hp → bFr [(67, 999)] hp0 hp → rfS hp (V, rcT T p k, ty) n h sv → w.toInt + (((trL (rcT T p k) 225).length : Nat) : Int) = (((trL T 225).length : Nat) : Int) → 0 ≤ w.toInt → w.toInt ≤ (k : Int) → xV (d + 3) am_m278 18 [some (.ref 66), some (.int a), some (.int w), some (.int wk)] [] hp R := by
  intro jj
  induction jj with
  | zero =>
    intro k w wk hp hwk hj hH hP hF hS hw hge hle
    have bV : rN hp 67 0 = (V : Int) := hS.1.1
    have ek : k = V := by omega
    subst ek
    refine xild 19 ⟨u278, _, rfl⟩ rfl rfl ?_
    refine xald 20 ⟨u278, _, rfl⟩ rfl rfl ?_
    refine xcall 23 [.ref 66] [.int _] hH ⟨u278, _, rfl⟩ rfl rfl rfl rfl rfl (k_points hH (fun z20 h20 => ⟨_, rfl, ?_⟩))
    refine xcmp_ge 26 ⟨u278, _, rfl⟩ rfl (fun c23 => ?_) (fun c23 => ?_)
    · refine xild 47 ⟨u278, _, rfl⟩ rfl rfl ?_
      exact xret ⟨u278, _, rfl⟩ rfl (hR _ hp hH hP hF hS hw)
    · omega
  | succ jj ih =>
    intro k w wk hp hwk hj hH hP hF hS hw hge hle
    have bV : rN hp 67 0 = (V : Int) := hS.1.1
    refine xild 19 ⟨u278, _, rfl⟩ rfl rfl ?_
    refine xald 20 ⟨u278, _, rfl⟩ rfl rfl ?_
    refine xcall 23 [.ref 66] [.int _] hH ⟨u278, _, rfl⟩ rfl rfl rfl rfl rfl (k_points hH (fun z20 h20 => ⟨_, rfl, ?_⟩))
    refine xcmp_ge 26 ⟨u278, _, rfl⟩ rfl (fun c23 => ?_) (fun c23 => ?_)
    · omega
    · refine xild 27 ⟨u278, _, rfl⟩ rfl rfl ?_
      refine xild 28 ⟨u278, _, rfl⟩ rfl rfl ?_
      refine xcmp_eq 31 ⟨u278, _, rfl⟩ rfl (fun c28 => ?_) (fun c28 => ?_)
      · refine xinc 43 (1) ⟨u278, _, rfl⟩ rfl rfl rfl (by decide) (by omega) (by omega) (fun z40 h40 => ?_)
        refine xgoto ⟨u278, _, rfl⟩ ?_
        have er : rcT T p (k + 1) = rcT T p k := by
          show (if k = p then _ else _) = _
          rw [if_pos (by omega)]
        exact ih (k + 1) _ _ hp (by omega) (by omega) hH hP hF (by rw [er]; exact hS) (by rw [er]; exact hw) hge (by omega)
      · refine xild 32 ⟨u278, _, rfl⟩ rfl rfl ?_
        refine xald 33 ⟨u278, _, rfl⟩ rfl rfl ?_
        refine xild 34 ⟨u278, _, rfl⟩ rfl rfl ?_
        refine xild 35 ⟨u278, _, rfl⟩ rfl rfl ?_
        refine xcall 38 [.ref 66, .int _, .int _] [.int _] hH ⟨u278, _, rfl⟩ rfl rfl rfl rfl rfl (k_277E hH hP hS (x := p) (y := k) ha hwk hpV (by omega) (fun z35 hp35 hH35 P35 F35 S35 e35 o35 => ⟨_, rfl, ?_⟩))
        have lr := len_rm (show sOk V (rcT T p k) from hS.1.2.1) p k
        refine xadd 39 _ ⟨u278, _, rfl⟩ rfl rfl (by omega) (by omega) (fun z38 h38 => ?_)
        refine xist 40 ⟨u278, _, rfl⟩ rfl rfl ?_
        refine xinc 43 (1) ⟨u278, _, rfl⟩ rfl rfl rfl (by decide) (by omega) (by omega) (fun z40 h40 => ?_)
        refine xgoto ⟨u278, _, rfl⟩ ?_
        have er : rcT T p (k + 1) = rmT (rcT T p k) p k := by
          show (if k = p then _ else _) = _
          rw [if_neg (by omega)]
        exact ih (k + 1) _ _ hp35 (by omega) (by omega) hH35 P35 (hF.trans F35) (by rw [er]; exact S35) (by rw [er]; omega) (by omega) (by omega)
theorem k_278E {d V n : Nat} {h : Nat → sR} {sv : Option sR} {T : sT} {ty : Nat → Int} {hp : amH} {R : xQ} {a : Int32} (hH : bHk 84 bTT hp) (hP : P0 hp) (hS : rfS hp (V, T, ty) n h sv)
    (hR : ∀ (z : Int32) hp1, bHk 84 bTT hp1 → P0 hp1 → bFr wM hp hp1 → rN hp1 66 7 = gPt V a.toInt → ((¬ gPt V a.toInt = 0 ∧ rfS hp1 (V, T, ty) n h sv) ∨ (gPt V a.toInt = 0 ∧ rfS hp1 (V, rcT T a.toInt.toNat V, ty) (pM n + 1) (pH n h (V, T, ty)) sv ∧ z.toInt + (((trL (rcT T a.toInt.toNat V) 225).length : Nat) : Int) = (((trL T 225).length : Nat) : Int))) → R (.inl (some (.int z))) hp1) : xK (d + 3) 278 [.ref 66, .int a] hp R := by
  have hV : V ≤ 15 := hS.1.2.1.2.1
  have hV0 : rN hp 67 0 = (V : Int) := hS.1.1
  refine xin (M := am_m278) rfl rfl rfl ?_
  refine xald 1 ⟨u278, _, rfl⟩ rfl rfl ?_
  refine xild 2 ⟨u278, _, rfl⟩ rfl rfl ?_
  refine xcall 5 [.ref 66, .int _] [] hH ⟨u278, _, rfl⟩ rfl rfl rfl rfl rfl (k_gp1 hH hV0 hV (fun z2 hp2 hH2 F2 t2 o2 => ⟨_, rfl, ?_⟩))
  have S2 := rfS_W hS F2 (fun _ => rfl) rfl rfl (fun _ => rfl) (fun _ => rfl)
  have P2 : P0 hp2 := P0_W (W := [(66, 7)]) (by decide) F2 hP
  refine xif_eq 8 ⟨u278, _, rfl⟩ rfl (fun c5 => ?_) (fun c5 => ?_)
  · have g2 : gPt V a.toInt = 0 := by omega
    have k2 := gPt_0.mp g2
    refine xald 11 ⟨u278, _, rfl⟩ rfl rfl ?_
    refine xcall 14 [.ref 66] [] hH2 ⟨u278, _, rfl⟩ rfl rfl rfl rfl rfl (k_rmS hH2 P2 S2 (fun hp11 hH11 P11 F11 S11 => ⟨_, rfl, ?_⟩))
    refine xcst 15 (0) ⟨u278, _, rfl⟩ rfl (by decide) (fun z14 h14 => ?_)
    refine xist 16 ⟨u278, _, rfl⟩ rfl rfl ?_
    refine xcst 17 (0) ⟨u278, _, rfl⟩ rfl (by decide) (fun z16 h16 => ?_)
    refine xist 18 ⟨u278, _, rfl⟩ rfl rfl ?_
    exact l278E (T := T) (ty := ty) (n := pM n + 1) (h := pH n h (V, T, ty)) (sv := sv) (p := a.toInt.toNat) hV (by omega) (by omega) (fun z hp1 q1 q2 q3 q4 q5 => hR z hp1 q1 q2 (((bFr_sub F2 (by decide)).trans (bFr_sub F11 (by decide))).trans (bFr_sub q3 (by decide))) (by rw [show rN hp1 66 7 = rN hp11 66 7 from r_fr q3 rfl, show rN hp11 66 7 = rN hp2 66 7 from r_fr F11 rfl]; exact t2) (Or.inr ⟨g2, q4, q5⟩)) V 0 _ _ hp11 (by omega) (by omega) hH11 P11 (bFr.refl _ _) S11 (by rw [h14]; show (0 : Int) + _ = _; rw [Int.zero_add]; rfl) (by omega) (by omega)
  · refine xcst 9 (0) ⟨u278, _, rfl⟩ rfl (by decide) (fun z8 h8 => ?_)
    exact xret ⟨u278, _, rfl⟩ rfl (hR _ hp2 hH2 P2 (bFr_sub F2 (by decide)) t2 (Or.inl ⟨by omega, S2⟩))
