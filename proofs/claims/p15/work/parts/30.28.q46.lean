/-! ===== the least turn that keeps the system ===== -/
def lkF (V : Nat) (T : sT) : Nat → Nat → Nat
  | 0, k => k
  | f + 1, k => if tkV V k T = 1 then k else lkF V T f (k + 1)
def lkV (V : Nat) (T : sT) : Nat := lkF V T (V - 1) 1
theorem lkF_in {V : Nat} {T : sT} : ∀ f k, k ≤ lkF V T f k ∧ lkF V T f k ≤ k + f
  | 0, k => ⟨Nat.le_refl _, Nat.le_refl _⟩
  | f + 1, k => by
    have ih := lkF_in (V := V) (T := T) f (k + 1)
    unfold lkF
    split <;> omega
theorem u30 : bUp 0 am_m30.1 = true := by decide +kernel
theorem l30E {d V x : Nat} {T : sT} {hp : amH} {R : xQ} (hH : bHk 84 bTT hp) (hB : bdOk hp 3 V T) (hL : lsN hp 3 T 225)
    (hR : ∀ z : Int32, z.toInt = (x : Int) → R (.inl (some (.int z))) hp) :
    ∀ (jj t : Nat) (wt : Int32), wt.toInt = (t : Int) → t + jj = V → lkF V T jj t = x → xV (d + 4) am_m30 2 [some (.ref 3), some (.int wt)] [] hp R := by
  have hT := hB.2.1
  have b0 : rN hp 3 0 = (V : Int) := hB.1
  have hV := hT.2.1
  intro jj
  induction jj with
  | zero =>
    intro t wt hwt hj hx
    have hx : t = x := hx
    refine xild 3 ⟨u30, _, rfl⟩ rfl rfl ?_
    refine xald 4 ⟨u30, _, rfl⟩ rfl rfl ?_
    refine xgetC 7 hH ⟨u30, _, rfl⟩ rfl (by decide) (by decide) rfl rfl (by decide) (fun z4 h4 => ?_)
    refine xcmp_ge 10 ⟨u30, _, rfl⟩ rfl (fun c7 => ?_) (fun c7 => ?_)
    · refine xald 27 ⟨u30, _, rfl⟩ rfl rfl ?_
      refine xgetC 30 hH ⟨u30, _, rfl⟩ rfl (by decide) (by decide) rfl rfl (by decide) (fun z27 h27 => ?_)
      exact xret ⟨u30, _, rfl⟩ rfl (hR _ (by omega))
    · omega
  | succ jj ih =>
    intro t wt hwt hj hx
    unfold lkF at hx
    have j01 := tkV_01 (V := V) (k := t) (T := T)
    refine xild 3 ⟨u30, _, rfl⟩ rfl rfl ?_
    refine xald 4 ⟨u30, _, rfl⟩ rfl rfl ?_
    refine xgetC 7 hH ⟨u30, _, rfl⟩ rfl (by decide) (by decide) rfl rfl (by decide) (fun z4 h4 => ?_)
    refine xcmp_ge 10 ⟨u30, _, rfl⟩ rfl (fun c7 => ?_) (fun c7 => ?_)
    · omega
    · refine xald 11 ⟨u30, _, rfl⟩ rfl rfl ?_
      refine xild 12 ⟨u30, _, rfl⟩ rfl rfl ?_
      refine xcallC 15 (o := 3) [.int _] [] hH ⟨u30, _, rfl⟩ rfl rfl (by decide) rfl (by decide) rfl ⟨rfl, rfl, rfl, rfl⟩ rfl (k_29E hH hB hL (x := t) (by omega) (by omega) (fun z12 h12 => ⟨_, rfl, ?_⟩))
      refine xif_eq 18 ⟨u30, _, rfl⟩ rfl (fun c15 => ?_) (fun c15 => ?_)
      · rw [if_neg (by omega)] at hx
        refine xinc 23 (1) ⟨u30, _, rfl⟩ rfl rfl rfl (by decide) (by omega) (by omega) (fun z20 h20 => ?_)
        refine xgoto ⟨u30, _, rfl⟩ ?_
        exact ih (t + 1) _ (by omega) (by omega) hx
      · rw [if_pos (by omega)] at hx
        refine xild 19 ⟨u30, _, rfl⟩ rfl rfl ?_
        exact xret ⟨u30, _, rfl⟩ rfl (hR _ (by omega))
theorem k_30E {d V : Nat} {T : sT} {hp : amH} {R : xQ} (hH : bHk 84 bTT hp) (hB : bdOk hp 3 V T) (hL : lsN hp 3 T 225)
    (hR : ∀ z : Int32, z.toInt = ((lkV V T : Nat) : Int) → R (.inl (some (.int z))) hp) : xK (d + 4) 30 [.ref 3] hp R := by
  have h3 := hB.2.1.1
  refine xin (M := am_m30) rfl rfl rfl ?_
  refine xcst 1 (1) ⟨u30, _, rfl⟩ rfl (by decide) (fun z0 h0 => ?_)
  refine xist 2 ⟨u30, _, rfl⟩ rfl rfl ?_
  exact l30E hH hB hL hR (V - 1) 1 _ (by omega) (by omega) rfl
theorem l236E {d V x : Nat} {T : sT} {hp : amH} {R : xQ} (hH : bHk 84 bTT hp) (hP : P0 hp) (hB : rdOk hp V T) (hL : rlN hp T 225)
    (hR : ∀ z : Int32, z.toInt = (x : Int) → R (.inl (some (.int z))) hp) :
    ∀ (jj t : Nat) (wt : Int32), wt.toInt = (t : Int) → t + jj = V → lkF V T jj t = x → xV (d + 3) am_m236 6 [some (.ref 66), some (.int wt)] [] hp R := by
  have hT := hB.2.1
  have b0 : rN hp 67 0 = (V : Int) := hB.1
  have hV := hT.2.1
  have hV3 := hT.1
  intro jj
  induction jj with
  | zero =>
    intro t wt hwt hj hx
    have hx : t = x := hx
    have j1 := tk_0 hT
    refine xald 7 ⟨u236, _, rfl⟩ rfl rfl ?_
    refine xild 8 ⟨u236, _, rfl⟩ rfl rfl ?_
    refine xald 9 ⟨u236, _, rfl⟩ rfl rfl ?_
    refine xcall 12 [.ref 66] [.int _, .ref 66] hH ⟨u236, _, rfl⟩ rfl rfl rfl rfl rfl (k_points hH (fun z9 h9 => ⟨_, rfl, ?_⟩))
    refine xrem 13 (_) ⟨u236, _, rfl⟩ rfl (by omega) (by omega) (rfl) (fun z12 h12 => ?_)
    have e12 : z12.toInt = (t : Int) % (V : Int) := by rw [h12, hwt, h9, b0]
    rw [show t = V by omega, Int.emod_self] at e12
    refine xcall 16 [.ref 66, .int _] [] hH ⟨u236, _, rfl⟩ rfl rfl rfl rfl rfl (k_235E hH hP hB hL (x := 0) (by omega) (by omega) (fun z13 h13 => ⟨_, rfl, ?_⟩))
    refine xif_ne 19 ⟨u236, _, rfl⟩ rfl (fun c16 => ?_) (fun c16 => ?_)
    · refine xild 26 ⟨u236, _, rfl⟩ rfl rfl ?_
      exact xret ⟨u236, _, rfl⟩ rfl (hR _ (by omega))
    · omega
  | succ jj ih =>
    intro t wt hwt hj hx
    unfold lkF at hx
    have j01 := tkV_01 (V := V) (k := t) (T := T)
    refine xald 7 ⟨u236, _, rfl⟩ rfl rfl ?_
    refine xild 8 ⟨u236, _, rfl⟩ rfl rfl ?_
    refine xald 9 ⟨u236, _, rfl⟩ rfl rfl ?_
    refine xcall 12 [.ref 66] [.int _, .ref 66] hH ⟨u236, _, rfl⟩ rfl rfl rfl rfl rfl (k_points hH (fun z9 h9 => ⟨_, rfl, ?_⟩))
    refine xrem 13 (_) ⟨u236, _, rfl⟩ rfl (by omega) (by omega) (rfl) (fun z12 h12 => ?_)
    have e12 : z12.toInt = (t : Int) % (V : Int) := by rw [h12, hwt, h9, b0]
    rw [Int.emod_eq_of_lt (by omega) (by omega)] at e12
    refine xcall 16 [.ref 66, .int _] [] hH ⟨u236, _, rfl⟩ rfl rfl rfl rfl rfl (k_235E hH hP hB hL (x := t) (by omega) (by omega) (fun z13 h13 => ⟨_, rfl, ?_⟩))
    refine xif_ne 19 ⟨u236, _, rfl⟩ rfl (fun c16 => ?_) (fun c16 => ?_)
    · rw [if_pos (by omega)] at hx
      refine xild 26 ⟨u236, _, rfl⟩ rfl rfl ?_
      exact xret ⟨u236, _, rfl⟩ rfl (hR _ (by omega))
    · rw [if_neg (by omega)] at hx
      refine xinc 22 (1) ⟨u236, _, rfl⟩ rfl rfl rfl (by decide) (by omega) (by omega) (fun z19 h19 => ?_)
      refine xgoto ⟨u236, _, rfl⟩ ?_
      exact ih (t + 1) _ (by omega) (by omega) hx
theorem k_236E {d V : Nat} {T : sT} {hp : amH} {R : xQ} (hH : bHk 84 bTT hp) (hP : P0 hp) (hB : rdOk hp V T)
    (hR : ∀ (z : Int32) hp1, bHk 84 bTT hp1 → bFr bLT hp hp1 → rdOk hp1 V T → rlN hp1 T 225 → z.toInt = ((lkV V T : Nat) : Int) → R (.inl (some (.int z))) hp1) : xK (d + 4) 236 [.ref 66] hp R := by
  have h3 := hB.2.1.1
  refine xin (M := am_m236) rfl rfl rfl ?_
  refine xald 1 ⟨u236, _, rfl⟩ rfl rfl ?_
  refine xcall 4 [.ref 66] [] hH ⟨u236, _, rfl⟩ rfl rfl rfl rfl rfl (k_rlst hH hB (fun hp1 hH1 F1 B1 L1 => ⟨_, rfl, ?_⟩))
  have P1 := P0_W (W := bLT) (by decide) F1 hP
  refine xcst 5 (1) ⟨u236, _, rfl⟩ rfl (by decide) (fun z4 h4 => ?_)
  refine xist 6 ⟨u236, _, rfl⟩ rfl rfl ?_
  exact l236E hH1 P1 B1 L1 (fun z e => hR z hp1 hH1 F1 B1 L1 e) (V - 1) 1 _ (by omega) (by omega) rfl
theorem u157 : bUp 0 am_m157.1 = true := by decide +kernel
theorem k_157E {d V n : Nat} {h : Nat → sR} {sv : Option sR} {T : sT} {ty : Nat → Int} {hp : amH} {R : xQ} (hH : bHk 84 bTT hp) (hS : clS hp (V, T, ty) n h sv)
    (hR : ∀ (z : Int32) hp1, bHk 84 bTT hp1 → cF hp hp1 → clS hp1 (V, T, ty) n h sv → z.toInt = ((lkV V T : Nat) : Int) → R (.inl (some (.int z))) hp1) : xK (d + 5) 157 [.ref 0] hp R := by
  have hB : bdOk hp 3 V T := hS.1
  have b0 : rN hp 3 0 = (V : Int) := hB.1
  have hL : lsN hp 3 T 225 := hS.2.1
  have b1 : rN hp 3 1 = (((trL T 225).length : Nat) : Int) := hL.1
  have hT0 : sOk V T := hB.2.1
  have h15 : V ≤ 15 := hT0.2.1
  have l35 : (trL T 225).length ≤ 35 := trL_35 hT0 225
  refine xin (M := am_m157) rfl rfl rfl ?_
  refine xald 1 ⟨u157, _, rfl⟩ rfl rfl ?_
  refine xgetD 4 (3) hH ⟨u157, _, rfl⟩ rfl (by decide) (by decide) rfl rfl (by decide) ?_
  refine xcallC 7 (o := 3) [] [] hH ⟨u157, _, rfl⟩ rfl rfl (by decide) rfl (by decide) rfl ⟨rfl, rfl, rfl, rfl⟩ rfl (k_30E hH hB hL (fun z4 h4 => ⟨_, rfl, ?_⟩))
  exact xret ⟨u157, _, rfl⟩ rfl (hR _ _ hH cF.refl hS h4)
theorem k_322E {d V n : Nat} {h : Nat → sR} {sv : Option sR} {T : sT} {ty : Nat → Int} {hp : amH} {R : xQ} (hH : bHk 84 bTT hp) (hP : P0 hp) (hS : rfS hp (V, T, ty) n h sv)
    (hR : ∀ (z : Int32) hp1, bHk 84 bTT hp1 → P0 hp1 → bFr wM hp hp1 → rfS hp1 (V, T, ty) n h sv → z.toInt = ((lkV V T : Nat) : Int) → R (.inl (some (.int z))) hp1) : xK (d + 5) 322 [.ref 66] hp R := by
  have hB : rdOk hp V T := rowOk_rd hS.1
  have b0 : rN hp 67 0 = (V : Int) := hB.1
  have hT0 : sOk V T := hB.2.1
  have h15 : V ≤ 15 := hT0.2.1
  have l35 : (trL T 225).length ≤ 35 := trL_35 hT0 225
  refine xin (M := am_m322) rfl rfl rfl ?_
  refine xald 1 ⟨u322, _, rfl⟩ rfl rfl ?_
  refine xcst 2 (0) ⟨u322, _, rfl⟩ rfl (by decide) (fun z1 h1 => ?_)
  refine xputI 5 hH ⟨u322, _, rfl⟩ rfl rfl ⟨rfl, rfl⟩ (by omega) (by omega) (fun hp2 hH2 U2 => ?_)
  have s2 := U2.1
  have S2 := rfS_W (W := [(66, 7)]) hS (rU_fr U2 rfl) (fun _ => rfl) rfl rfl (fun _ => rfl) (fun _ => rfl)
  have P2 := P0_W (W := [(66, 7)]) (by decide) (rU_fr U2 rfl) hP
  have B2 := rowOk_rd S2.1
  refine xald 6 ⟨u322, _, rfl⟩ rfl rfl ?_
  refine xcall 9 [.ref 66] [] hH2 ⟨u322, _, rfl⟩ rfl rfl rfl rfl rfl (k_236E hH2 P2 B2 (fun z6 hp6 hH6 F6 B6 L6 h6 => ⟨_, rfl, ?_⟩))
  have P6 := P0_W (W := bLT) (by decide) F6 P2
  exact xret ⟨u322, _, rfl⟩ rfl (hR _ hp6 hH6 P6 ((rU_fr U2 (by decide)).trans (bFr_sub F6 (by decide))) (rfS_W S2 F6 (fun _ => rfl) rfl rfl (fun _ => rfl) (fun _ => rfl)) h6)
