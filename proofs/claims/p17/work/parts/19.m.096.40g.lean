/-! ===== the reference walks along cycles ===== -/
theorem sy_T {V : Nat} {T : sT} (hT : sOk V T) (u v : Nat) : T u v = T v u := by
  by_cases h : T u v = -1
  · rw [h, sy_free hT h]
  · obtain ⟨k, ek, -, -, -, -, -, -, t1, -⟩ := sOk_at hT (rfl : T u v = _) h
    rw [ek, t1]
def wWkE : List (Nat × Nat) := [(66, 17), (78, 999)]
theorem u227 : bUp 0 am_m227.1 = true := by decide +kernel
theorem l225E {d V x a b : Nat} {T : sT} {hp0 : amH} {R : xQ} {wa wb wx : Int32} (hB0 : rdOk hp0 V T) (ha : wa.toInt = (a : Int)) (hb : wb.toInt = (b : Int)) (aV : a < V) (bV : b < V) (hx : wx.toInt = (x : Int)) (xV' : x < V)
    (hR : ∀ (z : Int32) hp1, bHk 84 bTT hp1 → bFr wWkE hp0 hp1 → z.toInt = (if 0 < cyL T a b x then 1 else 0) → (0 < cyL T a b x → rN hp1 66 17 = ((cyL T a b x : Nat) : Int) ∧ ∀ k, k < cyL T a b x → rN hp1 78 k = ((rk T a b x k : Nat) : Int)) → R (.inl (some (.int z))) hp1) :
    ∀ (jj k at_ : Nat) (wat : Int32) (v5 : Option Value) (hp : amH), wat.toInt = (at_ : Int) → rN hp 66 17 = (k : Int) → k + jj = 15 → wl T a b false k x = some at_ → clF T a b x jj k = cyL T a b x → bHk 84 bTT hp → bFr wWkE hp0 hp → (∀ j, j < k → rN hp 78 j = ((rk T a b x j : Nat) : Int)) → xV (d + 1) am_m225 8 [some (.ref 66), some (.int wa), some (.int wb), some (.int wx), some (.int wat), v5] [] hp R := by
  have hT : sOk V T := hB0.2.1
  have hV := hT.2.1
  intro jj
  induction jj with
  | zero =>
    intro k at_ wat v5 hp hat hk hj hwl hcl hH hF hro
    have h0 : cyL T a b x = 0 := hcl.symm
    refine xald 9 ⟨u225, _, rfl⟩ rfl rfl ?_
    refine xgetI 12 hH ⟨u225, _, rfl⟩ rfl rfl (fun z9 h9 => ?_)
    refine xbip 14 (15) ⟨u225, _, rfl⟩ rfl (by decide) (fun z12 h12 => ?_)
    refine xcmp_ge 17 ⟨u225, _, rfl⟩ rfl (fun c14 => ?_) (fun c14 => ?_)
    · refine xcst 85 (0) ⟨u225, _, rfl⟩ rfl (by decide) (fun z84 h84 => ?_)
      exact xretB ⟨u225, _, rfl⟩ rfl (by omega) (hR _ hp hH hF (by rw [h0, if_neg (by omega)]; exact h84) (fun z => by omega))
    · omega
  | succ jj ih =>
    intro k at_ wat v5 hp hat hk hj hwl hcl hH hF hro
    have hB : rdOk hp V T := rdOk_fr hB0 (fun i => r_fr hF rfl)
    have atV := wl_lt hT xV' hwl
    have nxt := wl_next hwl
    have par := pr2_mod k
    have hs : ∃ s : Nat, abS a b (pr2 false k) = s ∧ s < V ∧ ((k % 2 = 0 ∧ s = a) ∨ (k % 2 = 1 ∧ s = b)) := by
      rcases Nat.mod_two_eq_zero_or_one k with g | g
      · exact ⟨a, by rw [par, decide_eq_false (by omega)]; rfl, aV, Or.inl ⟨g, rfl⟩⟩
      · exact ⟨b, by rw [par, decide_eq_true g]; rfl, bV, Or.inr ⟨g, rfl⟩⟩
    obtain ⟨s, es, sV, hs⟩ := hs
    rw [es] at nxt
    have hrk : rk T a b x k = at_ := rk_some hwl
    have cle : clF T a b x (jj + 1) k = if wl T a b false (k + 1) x = some x then k + 1 else if wl T a b false (k + 1) x = none then 0 else clF T a b x jj (k + 1) := rfl
    refine xald 9 ⟨u225, _, rfl⟩ rfl rfl ?_
    refine xgetI 12 hH ⟨u225, _, rfl⟩ rfl rfl (fun z9 h9 => ?_)
    refine xbip 14 (15) ⟨u225, _, rfl⟩ rfl (by decide) (fun z12 h12 => ?_)
    refine xcmp_ge 17 ⟨u225, _, rfl⟩ rfl (fun c14 => ?_) (fun c14 => ?_)
    · omega
    · refine xald 18 ⟨u225, _, rfl⟩ rfl rfl ?_
      refine xgetR 21 78 hH ⟨u225, _, rfl⟩ rfl rfl ?_
      refine xald 22 ⟨u225, _, rfl⟩ rfl rfl ?_
      refine xgetI 25 hH ⟨u225, _, rfl⟩ rfl rfl (fun z22 h22 => ?_)
      refine xild2 27 ⟨u225, _, rfl⟩ rfl rfl ?_
      refine xiast 28 (z22).toInt.toNat hH ⟨u225, _, rfl⟩ rfl (by decide) rfl (by omega) (by omega) (by omega) (by omega) (fun hp27 hH27 U27 => ?_)
      have s27 := U27.1
      have i21 : z22.toInt.toNat = k := by omega
      have k27 : rN hp27 66 17 = (k : Int) := (rU_ne U27 (by omega)).trans hk
      refine xald 29 ⟨u225, _, rfl⟩ rfl rfl ?_
      refine xdup 30 ⟨u225, _, rfl⟩ rfl rfl ?_
      refine xgetI 33 hH27 ⟨u225, _, rfl⟩ rfl rfl (fun z30 h30 => ?_)
      refine xcst 34 (1) ⟨u225, _, rfl⟩ rfl (by decide) (fun z33 h33 => ?_)
      refine xadd 35 _ ⟨u225, _, rfl⟩ rfl rfl (by omega) (by omega) (fun z34 h34 => ?_)
      refine xputI 38 hH27 ⟨u225, _, rfl⟩ rfl rfl ⟨rfl, rfl⟩ (by omega) (by omega) (fun hp35 hH35 U35 => ?_)
      have s35 := U35.1
      have s27 := U27.1
      have s35 := U35.1
      have F35 : bFr wWkE hp hp35 := (rU_fr U27 (bIn_all (by decide) _)).trans (rU_fr U35 (by decide))
      have B35 : rdOk hp35 V T := rdOk_fr hB (fun i => r_fr F35 rfl)
      have tt35 : ∀ u v, u < 15 → v < 15 → tT hp35 u v = T u v := B35.2.2.1
      have m35 : rN hp35 66 17 = ((k + 1 : Nat) : Int) := by omega
      have ro35 : ∀ j, j < k + 1 → rN hp35 78 j = ((rk T a b x j : Nat) : Int) := fun j hj2 => by
        rw [rU_ne U35 (by omega)]
        by_cases g : j = k
        · rw [g, show k = z22.toInt.toNat by omega, s27, show z22.toInt.toNat = k by omega, hrk]
          exact hat
        · rw [rU_ne U27 (by omega)]
          exact hro j (by omega)
      refine xald 39 ⟨u225, _, rfl⟩ rfl rfl ?_
      refine xild2 41 ⟨u225, _, rfl⟩ rfl rfl ?_
      refine xald 42 ⟨u225, _, rfl⟩ rfl rfl ?_
      refine xgetI 45 hH35 ⟨u225, _, rfl⟩ rfl rfl (fun z42 h42 => ?_)
      refine xcst 46 (2) ⟨u225, _, rfl⟩ rfl (by decide) (fun z45 h45 => ?_)
      refine xrem 47 (Int32.toInt z42 % 2) ⟨u225, _, rfl⟩ rfl (by omega) (by omega) (by rw [h45]) (fun z46 h46 => ?_)
      refine xcst 48 (1) ⟨u225, _, rfl⟩ rfl (by decide) (fun z47 h47 => ?_)
      refine xcmp_ne 51 ⟨u225, _, rfl⟩ rfl (fun c48 => ?_) (fun c48 => ?_)
      · refine xild 56 ⟨u225, _, rfl⟩ rfl rfl ?_
        refine xcall 59 [.ref 66, .int _, .int _] [] hH35 ⟨u225, _, rfl⟩ rfl rfl rfl rfl rfl (k_third hH35 (by omega) (by omega) (by omega) (by omega) (fun z56 h56 => ⟨_, rfl, ?_⟩))
        rw [show wb.toInt.toNat = s by omega, show wat.toInt.toNat = at_ by omega, tt35 at_ s (by omega) (by omega), sy_T hT at_ s] at h56
        refine xist2 61 ⟨u225, _, rfl⟩ rfl rfl ?_
        refine xild2 63 ⟨u225, _, rfl⟩ rfl rfl ?_
        refine xcst 64 (-1) ⟨u225, _, rfl⟩ rfl (by decide) (fun z63 h63 => ?_)
        refine xcmp_ne 67 ⟨u225, _, rfl⟩ rfl (fun c64 => ?_) (fun c64 => ?_)
        · obtain ⟨w, ew, -, lw, -⟩ := sOk_at hT (a := s) (b := at_) rfl (by omega)
          rw [if_neg (by omega), ew, Int.toNat_natCast] at nxt
          refine xild2 71 ⟨u225, _, rfl⟩ rfl rfl ?_
          refine xist2 73 ⟨u225, _, rfl⟩ rfl rfl ?_
          refine xild2 75 ⟨u225, _, rfl⟩ rfl rfl ?_
          refine xild 76 ⟨u225, _, rfl⟩ rfl rfl ?_
          refine xcmp_ne 79 ⟨u225, _, rfl⟩ rfl (fun c76 => ?_) (fun c76 => ?_)
          · have nx : ¬ wl T a b false (k + 1) x = some x := fun z => by rw [nxt] at z; have := Option.some.inj z; omega
            rw [cle, if_neg nx, if_neg (by rw [nxt]; simp)] at hcl
            refine xgoto ⟨u225, _, rfl⟩ ?_
            exact ih (k + 1) w z56 _ hp35 (by omega) m35 (by omega) nxt hcl hH35 (hF.trans F35) ro35
          · have wx1 : w = x := by omega
            rw [wx1] at nxt
            rw [cle, if_pos nxt] at hcl
            refine xcst 80 (1) ⟨u225, _, rfl⟩ rfl (by decide) (fun z79 h79 => ?_)
            exact xretB ⟨u225, _, rfl⟩ rfl (by omega) (hR _ hp35 hH35 (hF.trans F35) (by rw [← hcl, if_pos (by omega)]; exact h79) (fun _ => by rw [← hcl]; exact ⟨m35, ro35⟩))
        · rw [if_pos (by omega)] at nxt
          rw [cle, nxt, if_neg (by simp), if_pos rfl] at hcl
          refine xcst 68 (0) ⟨u225, _, rfl⟩ rfl (by decide) (fun z67 h67 => ?_)
          exact xretB ⟨u225, _, rfl⟩ rfl (by omega) (hR _ hp35 hH35 (hF.trans F35) (by rw [← hcl, if_neg (by omega)]; exact h67) (fun z => by omega))
      · refine xild 52 ⟨u225, _, rfl⟩ rfl rfl ?_
        refine xgoto ⟨u225, _, rfl⟩ ?_
        refine xcall 59 [.ref 66, .int _, .int _] [] hH35 ⟨u225, _, rfl⟩ rfl rfl rfl rfl rfl (k_third hH35 (by omega) (by omega) (by omega) (by omega) (fun z56 h56 => ⟨_, rfl, ?_⟩))
        rw [show wa.toInt.toNat = s by omega, show wat.toInt.toNat = at_ by omega, tt35 at_ s (by omega) (by omega), sy_T hT at_ s] at h56
        refine xist2 61 ⟨u225, _, rfl⟩ rfl rfl ?_
        refine xild2 63 ⟨u225, _, rfl⟩ rfl rfl ?_
        refine xcst 64 (-1) ⟨u225, _, rfl⟩ rfl (by decide) (fun z63 h63 => ?_)
        refine xcmp_ne 67 ⟨u225, _, rfl⟩ rfl (fun c64 => ?_) (fun c64 => ?_)
        · obtain ⟨w, ew, -, lw, -⟩ := sOk_at hT (a := s) (b := at_) rfl (by omega)
          rw [if_neg (by omega), ew, Int.toNat_natCast] at nxt
          refine xild2 71 ⟨u225, _, rfl⟩ rfl rfl ?_
          refine xist2 73 ⟨u225, _, rfl⟩ rfl rfl ?_
          refine xild2 75 ⟨u225, _, rfl⟩ rfl rfl ?_
          refine xild 76 ⟨u225, _, rfl⟩ rfl rfl ?_
          refine xcmp_ne 79 ⟨u225, _, rfl⟩ rfl (fun c76 => ?_) (fun c76 => ?_)
          · have nx : ¬ wl T a b false (k + 1) x = some x := fun z => by rw [nxt] at z; have := Option.some.inj z; omega
            rw [cle, if_neg nx, if_neg (by rw [nxt]; simp)] at hcl
            refine xgoto ⟨u225, _, rfl⟩ ?_
            exact ih (k + 1) w z56 _ hp35 (by omega) m35 (by omega) nxt hcl hH35 (hF.trans F35) ro35
          · have wx1 : w = x := by omega
            rw [wx1] at nxt
            rw [cle, if_pos nxt] at hcl
            refine xcst 80 (1) ⟨u225, _, rfl⟩ rfl (by decide) (fun z79 h79 => ?_)
            exact xretB ⟨u225, _, rfl⟩ rfl (by omega) (hR _ hp35 hH35 (hF.trans F35) (by rw [← hcl, if_pos (by omega)]; exact h79) (fun _ => by rw [← hcl]; exact ⟨m35, ro35⟩))
        · rw [if_pos (by omega)] at nxt
          rw [cle, nxt, if_neg (by simp), if_pos rfl] at hcl
          refine xcst 68 (0) ⟨u225, _, rfl⟩ rfl (by decide) (fun z67 h67 => ?_)
          exact xretB ⟨u225, _, rfl⟩ rfl (by omega) (hR _ hp35 hH35 (hF.trans F35) (by rw [← hcl, if_neg (by omega)]; exact h67) (fun z => by omega))
theorem k_225E {d V x a b : Nat} {T : sT} {hp : amH} {R : xQ} {wa wb wx : Int32} (hH : bHk 84 bTT hp) (hB : rdOk hp V T) (ha : wa.toInt = (a : Int)) (hb : wb.toInt = (b : Int)) (aV : a < V) (bV : b < V) (hx : wx.toInt = (x : Int)) (xV' : x < V)
    (hR : ∀ (z : Int32) hp1, bHk 84 bTT hp1 → bFr wWkE hp hp1 → z.toInt = (if 0 < cyL T a b x then 1 else 0) → (0 < cyL T a b x → rN hp1 66 17 = ((cyL T a b x : Nat) : Int) ∧ ∀ k, k < cyL T a b x → rN hp1 78 k = ((rk T a b x k : Nat) : Int)) → R (.inl (some (.int z))) hp1) : xK (d + 1) 225 [.ref 66, .int wa, .int wb, .int wx] hp R := by
  refine xin (M := am_m225) rfl rfl rfl ?_
  refine xald 1 ⟨u225, _, rfl⟩ rfl rfl ?_
  refine xcst 2 (0) ⟨u225, _, rfl⟩ rfl (by decide) (fun z1 h1 => ?_)
  refine xputI 5 hH ⟨u225, _, rfl⟩ rfl rfl ⟨rfl, rfl⟩ (by omega) (by omega) (fun hp2 hH2 U2 => ?_)
  have s2 := U2.1
  refine xild 6 ⟨u225, _, rfl⟩ rfl rfl ?_
  refine xist2 8 ⟨u225, _, rfl⟩ rfl rfl ?_
  have F2 : bFr wWkE hp hp2 := rU_fr U2 (by decide)
  refine xpad 1 ?_
  exact l225E (rdOk_fr hB (fun i => r_fr F2 rfl)) ha hb aV bV hx xV' (fun z hp1 k1 k2 k3 k4 => hR z hp1 k1 (F2.trans k2) k3 k4) 15 0 x _ _ hp2 hx (by rw [U2.1]; exact h1) (by omega) rfl rfl hH2 (bFr.refl _ _) (fun j hj => absurd hj (Nat.not_lt_zero j))
theorem l226E {d x a b : Nat} {T : sT} {hp : amH} {R : xQ} {wa wb wx : Int32} (hH : bHk 84 bTT hp) (hx : wx.toInt = (x : Int)) (h15 : cyL T a b x ≤ 15) (hm : rN hp 66 17 = ((cyL T a b x : Nat) : Int)) (hr : ∀ k, k < cyL T a b x → rN hp 78 k = ((rk T a b x k : Nat) : Int))
    (hR : ∀ z : Int32, z.toInt = (if ∀ k, k < cyL T a b x → x ≤ rk T a b x k then 1 else 0) → R (.inl (some (.int z))) hp) :
    ∀ (jj k : Nat) (wk : Int32), wk.toInt = (k : Int) → k + jj = cyL T a b x → (∀ j, j < k → x ≤ rk T a b x j) → xV d am_m226 35 [some (.ref 66), some (.int wa), some (.int wb), some (.int wx), some (.int wk)] [] hp R := by
  intro jj
  induction jj with
  | zero =>
    intro k wk hwk hj hlo
    have ek : k = cyL T a b x := by omega
    rw [ek] at hlo
    refine xild2 37 ⟨u226, _, rfl⟩ rfl rfl ?_
    refine xald 38 ⟨u226, _, rfl⟩ rfl rfl ?_
    refine xgetI 41 hH ⟨u226, _, rfl⟩ rfl rfl (fun z38 h38 => ?_)
    refine xcmp_ge 44 ⟨u226, _, rfl⟩ rfl (fun c41 => ?_) (fun c41 => ?_)
    · refine xcst 64 (1) ⟨u226, _, rfl⟩ rfl (by decide) (fun z63 h63 => ?_)
      exact xretB ⟨u226, _, rfl⟩ rfl (by omega) (hR _ (by rw [if_pos hlo]; exact h63))
    · omega
  | succ jj ih =>
    intro k wk hwk hj hlo
    have hk := hr k (by omega)
    refine xild2 37 ⟨u226, _, rfl⟩ rfl rfl ?_
    refine xald 38 ⟨u226, _, rfl⟩ rfl rfl ?_
    refine xgetI 41 hH ⟨u226, _, rfl⟩ rfl rfl (fun z38 h38 => ?_)
    refine xcmp_ge 44 ⟨u226, _, rfl⟩ rfl (fun c41 => ?_) (fun c41 => ?_)
    · omega
    · refine xald 45 ⟨u226, _, rfl⟩ rfl rfl ?_
      refine xgetR 48 78 hH ⟨u226, _, rfl⟩ rfl rfl ?_
      refine xild2 50 ⟨u226, _, rfl⟩ rfl rfl ?_
      refine xiald 51 (wk).toInt.toNat hH ⟨u226, _, rfl⟩ rfl (by decide) rfl (by omega) (by omega) (fun z50 h50 => ?_)
      rw [show wk.toInt.toNat = k by omega, hk] at h50
      refine xild 52 ⟨u226, _, rfl⟩ rfl rfl ?_
      refine xcmp_ge 55 ⟨u226, _, rfl⟩ rfl (fun c52 => ?_) (fun c52 => ?_)
      · refine xinc 60 (1) ⟨u226, _, rfl⟩ rfl rfl rfl (by decide) (by omega) (by omega) (fun z57 h57 => ?_)
        refine xgoto ⟨u226, _, rfl⟩ ?_
        exact ih (k + 1) z57 (by omega) (by omega) (fun j hj2 => by
          by_cases g : j = k
          · rw [g]; omega
          · exact hlo j (by omega))
      · refine xcst 56 (0) ⟨u226, _, rfl⟩ rfl (by decide) (fun z55 h55 => ?_)
        exact xretB ⟨u226, _, rfl⟩ rfl (by omega) (hR _ (by rw [if_neg (fun z => by have := z k (by omega); omega)]; exact h55))
theorem k_226E {d V x a b : Nat} {T : sT} {hp : amH} {R : xQ} {wa wb wx : Int32} (hH : bHk 84 bTT hp) (hB : rdOk hp V T) (ha : wa.toInt = (a : Int)) (hb : wb.toInt = (b : Int)) (aV : a < V) (bV : b < V) (hx : wx.toInt = (x : Int)) (xV' : x < V)
    (hR : ∀ (z : Int32) hp1, bHk 84 bTT hp1 → bFr wWkE hp hp1 → z.toInt = (if cyB T a b x = true then 1 else 0) → (cyB T a b x = true → rN hp1 66 17 = ((cyL T a b x : Nat) : Int) ∧ ∀ k, k < cyL T a b x → rN hp1 78 k = ((rk T a b x k : Nat) : Int)) → R (.inl (some (.int z))) hp1) : xK (d + 2) 226 [.ref 66, .int wa, .int wb, .int wx] hp R := by
  have hT : sOk V T := hB.2.1
  have hV := hT.2.1
  have tt := hB.2.2.1
  have cB : cyB T a b x = true ↔ (¬ x = a ∧ ¬ x = b ∧ ¬ T a b = (x : Int) ∧ 0 < cyL T a b x ∧ ∀ k, k < cyL T a b x → x ≤ rk T a b x k) := decide_eq_true_iff
  refine xin (M := am_m226) rfl rfl rfl ?_
  refine xild 1 ⟨u226, _, rfl⟩ rfl rfl ?_
  refine xild 2 ⟨u226, _, rfl⟩ rfl rfl ?_
  refine xcmp_eq 5 ⟨u226, _, rfl⟩ rfl (fun c2 => ?_) (fun c2 => ?_)
  · have nb : ¬ cyB T a b x = true := fun z => by
      obtain ⟨z1, z2, z3, z4, z5⟩ := cB.mp z
      omega
    refine xcst 31 (0) ⟨u226, _, rfl⟩ rfl (by decide) (fun z30 h30 => ?_)
    exact xretB ⟨u226, _, rfl⟩ rfl (by omega) (hR _ hp hH (bFr.refl _ _) (by rw [if_neg nb]; exact h30) (fun z => absurd z nb))
  · refine xild 6 ⟨u226, _, rfl⟩ rfl rfl ?_
    refine xild 7 ⟨u226, _, rfl⟩ rfl rfl ?_
    refine xcmp_eq 10 ⟨u226, _, rfl⟩ rfl (fun c7 => ?_) (fun c7 => ?_)
    · have nb : ¬ cyB T a b x = true := fun z => by
        obtain ⟨z1, z2, z3, z4, z5⟩ := cB.mp z
        omega
      refine xcst 31 (0) ⟨u226, _, rfl⟩ rfl (by decide) (fun z30 h30 => ?_)
      exact xretB ⟨u226, _, rfl⟩ rfl (by omega) (hR _ hp hH (bFr.refl _ _) (by rw [if_neg nb]; exact h30) (fun z => absurd z nb))
    · refine xald 11 ⟨u226, _, rfl⟩ rfl rfl ?_
      refine xild 12 ⟨u226, _, rfl⟩ rfl rfl ?_
      refine xild 13 ⟨u226, _, rfl⟩ rfl rfl ?_
      refine xcall 16 [.ref 66, .int _, .int _] [] hH ⟨u226, _, rfl⟩ rfl rfl rfl rfl rfl (k_third hH (by omega) (by omega) (by omega) (by omega) (fun z13 h13 => ⟨_, rfl, ?_⟩))
      rw [show wa.toInt.toNat = a by omega, show wb.toInt.toNat = b by omega, tt a b (by omega) (by omega)] at h13
      refine xild 17 ⟨u226, _, rfl⟩ rfl rfl ?_
      refine xcmp_eq 20 ⟨u226, _, rfl⟩ rfl (fun c17 => ?_) (fun c17 => ?_)
      · have nb : ¬ cyB T a b x = true := fun z => by
          obtain ⟨z1, z2, z3, z4, z5⟩ := cB.mp z
          omega
        refine xcst 31 (0) ⟨u226, _, rfl⟩ rfl (by decide) (fun z30 h30 => ?_)
        exact xretB ⟨u226, _, rfl⟩ rfl (by omega) (hR _ hp hH (bFr.refl _ _) (by rw [if_neg nb]; exact h30) (fun z => absurd z nb))
      · refine xald 21 ⟨u226, _, rfl⟩ rfl rfl ?_
        refine xild 22 ⟨u226, _, rfl⟩ rfl rfl ?_
        refine xild 23 ⟨u226, _, rfl⟩ rfl rfl ?_
        refine xild 24 ⟨u226, _, rfl⟩ rfl rfl ?_
        refine xcall 27 [.ref 66, .int _, .int _, .int _] [] hH ⟨u226, _, rfl⟩ rfl rfl rfl rfl rfl (k_225E hH hB ha hb aV bV hx xV' (fun z24 hp24 hH24 F24 h24 r24 => ⟨_, rfl, ?_⟩))
        refine xif_ne 30 ⟨u226, _, rfl⟩ rfl (fun c27 => ?_) (fun c27 => ?_)
        · have cp : 0 < cyL T a b x := by
            by_cases g : 0 < cyL T a b x
            · exact g
            · rw [if_neg g] at h24; omega
          obtain ⟨m24, q24⟩ := r24 cp
          refine xcst 33 (1) ⟨u226, _, rfl⟩ rfl (by decide) (fun z32 h32 => ?_)
          refine xist2 35 ⟨u226, _, rfl⟩ rfl rfl ?_
          exact l226E (a := a) (b := b) hH24 hx (cyL_s hT cp).1 m24 q24 (fun z hz => hR z hp24 hH24 F24 (by
            rw [hz]
            by_cases g : ∀ k, k < cyL T a b x → x ≤ rk T a b x k
            · rw [if_pos g, if_pos (cB.mpr ⟨by omega, by omega, by omega, cp, g⟩)]
            · rw [if_neg g, if_neg (fun q => g (cB.mp q).2.2.2.2)]) (fun _ => ⟨m24, q24⟩)) (cyL T a b x - 1) 1 _ h32 (by omega) (fun j hj => by
            rw [show j = 0 by omega]
            exact Nat.le_refl x)
        · have nb : ¬ cyB T a b x = true := fun z => by
            obtain ⟨z1, z2, z3, z4, z5⟩ := cB.mp z
            rw [if_pos z4] at h24; omega
          refine xcst 31 (0) ⟨u226, _, rfl⟩ rfl (by decide) (fun z30 h30 => ?_)
          exact xretB ⟨u226, _, rfl⟩ rfl (by omega) (hR _ hp24 hH24 F24 (by rw [if_neg nb]; exact h30) (fun z => absurd z nb))
theorem l227E {d V a b : Nat} {T : sT} {hp0 : amH} {R : xQ} {wa wb : Int32} (hB0 : rdOk hp0 V T) (ha : wa.toInt = (a : Int)) (hb : wb.toInt = (b : Int)) (aV : a < V) (bV : b < V)
    (hR : ∀ (z : Int32) hp1, bHk 84 bTT hp1 → bFr wWkE hp0 hp1 → z.toInt = (((cyS T a b V).length : Nat) : Int) → R (.inl (some (.int z))) hp1) :
    ∀ (jj i : Nat) (w wi : Int32) (hp : amH), wi.toInt = (i : Int) → i + jj = V → w.toInt = (((cyS T a b i).length : Nat) : Int) → bHk 84 bTT hp → bFr wWkE hp0 hp → xV (d + 3) am_m227 5 [some (.ref 66), some (.int wa), some (.int wb), some (.int w), some (.int wi)] [] hp R := by
  have hT : sOk V T := hB0.2.1
  have hV := hT.2.1
  intro jj
  induction jj with
  | zero =>
    intro i w wi hp hwi hj hw hH hF
    have q0 : rN hp 67 0 = (V : Int) := (r_fr hF rfl).trans hB0.1
    have ei : i = V := by omega
    rw [ei] at hw
    refine xild2 7 ⟨u227, _, rfl⟩ rfl rfl ?_
    refine xald 8 ⟨u227, _, rfl⟩ rfl rfl ?_
    refine xcall 11 [.ref 66] [.int _] hH ⟨u227, _, rfl⟩ rfl rfl rfl rfl rfl (k_points hH (fun z8 h8 => ⟨_, rfl, ?_⟩))
    refine xcmp_ge 14 ⟨u227, _, rfl⟩ rfl (fun c11 => ?_) (fun c11 => ?_)
    · refine xild 40 ⟨u227, _, rfl⟩ rfl rfl ?_
      exact xret ⟨u227, _, rfl⟩ rfl (hR _ hp hH hF hw)
    · omega
  | succ jj ih =>
    intro i w wi hp hwi hj hw hH hF
    have q0 : rN hp 67 0 = (V : Int) := (r_fr hF rfl).trans hB0.1
    have hB : rdOk hp V T := rdOk_fr hB0 (fun i => r_fr hF rfl)
    have li := fL_n (B := cyB T a b) i
    have ly : cyB T a b i = true → (cyS T a b (i + 1)).length = (cyS T a b i).length + 1 := fun h => by rw [show cyS T a b (i + 1) = cyS T a b i ++ [i] from fL_add h, List.length_append, List.length_singleton]
    have ln : ¬ cyB T a b i = true → (cyS T a b (i + 1)).length = (cyS T a b i).length := fun h => by rw [show cyS T a b (i + 1) = cyS T a b i from fL_skip h]
    have li : (cyS T a b i).length ≤ i := li
    refine xild2 7 ⟨u227, _, rfl⟩ rfl rfl ?_
    refine xald 8 ⟨u227, _, rfl⟩ rfl rfl ?_
    refine xcall 11 [.ref 66] [.int _] hH ⟨u227, _, rfl⟩ rfl rfl rfl rfl rfl (k_points hH (fun z8 h8 => ⟨_, rfl, ?_⟩))
    refine xcmp_ge 14 ⟨u227, _, rfl⟩ rfl (fun c11 => ?_) (fun c11 => ?_)
    · omega
    · refine xild 15 ⟨u227, _, rfl⟩ rfl rfl ?_
      refine xald 16 ⟨u227, _, rfl⟩ rfl rfl ?_
      refine xild 17 ⟨u227, _, rfl⟩ rfl rfl ?_
      refine xild 18 ⟨u227, _, rfl⟩ rfl rfl ?_
      refine xild2 20 ⟨u227, _, rfl⟩ rfl rfl ?_
      refine xcall 23 [.ref 66, .int _, .int _, .int _] [.int _] hH ⟨u227, _, rfl⟩ rfl rfl rfl rfl rfl (k_226E (x := i) hH hB ha hb aV bV hwi (by omega) (fun z20 hp20 hH20 F20 h20 r20 => ⟨_, rfl, ?_⟩))
      refine xif_eq 26 ⟨u227, _, rfl⟩ rfl (fun c23 => ?_) (fun c23 => ?_)
      · have nb : ¬ cyB T a b i = true := fun z => by rw [if_pos z] at h20; omega
        have l1 := ln nb
        refine xcst 31 (0) ⟨u227, _, rfl⟩ rfl (by decide) (fun z30 h30 => ?_)
        refine xadd 32 _ ⟨u227, _, rfl⟩ rfl rfl (by omega) (by omega) (fun z31 h31 => ?_)
        refine xist 33 ⟨u227, _, rfl⟩ rfl rfl ?_
        refine xinc 36 (1) ⟨u227, _, rfl⟩ rfl rfl rfl (by decide) (by omega) (by omega) (fun z33 h33 => ?_)
        refine xgoto ⟨u227, _, rfl⟩ ?_
        exact ih (i + 1) z31 z33 hp20 (by omega) (by omega) (by omega) hH20 (hF.trans F20)
      · have yb : cyB T a b i = true := by
          by_cases g : cyB T a b i = true
          · exact g
          · rw [if_neg g] at h20; omega
        have l1 := ly yb
        refine xcst 27 (1) ⟨u227, _, rfl⟩ rfl (by decide) (fun z26 h26 => ?_)
        refine xgoto ⟨u227, _, rfl⟩ ?_
        refine xadd 32 _ ⟨u227, _, rfl⟩ rfl rfl (by omega) (by omega) (fun z31 h31 => ?_)
        refine xist 33 ⟨u227, _, rfl⟩ rfl rfl ?_
        refine xinc 36 (1) ⟨u227, _, rfl⟩ rfl rfl rfl (by decide) (by omega) (by omega) (fun z33 h33 => ?_)
        refine xgoto ⟨u227, _, rfl⟩ ?_
        exact ih (i + 1) z31 z33 hp20 (by omega) (by omega) (by omega) hH20 (hF.trans F20)
theorem k_227E {d V a b : Nat} {T : sT} {hp : amH} {R : xQ} {wa wb : Int32} (hH : bHk 84 bTT hp) (hB : rdOk hp V T) (ha : wa.toInt = (a : Int)) (hb : wb.toInt = (b : Int)) (aV : a < V) (bV : b < V)
    (hR : ∀ (z : Int32) hp1, bHk 84 bTT hp1 → bFr wWkE hp hp1 → z.toInt = (((cyS T a b V).length : Nat) : Int) → R (.inl (some (.int z))) hp1) : xK (d + 3) 227 [.ref 66, .int wa, .int wb] hp R := by
  refine xin (M := am_m227) rfl rfl rfl ?_
  refine xcst 1 (0) ⟨u227, _, rfl⟩ rfl (by decide) (fun z0 h0 => ?_)
  refine xist 2 ⟨u227, _, rfl⟩ rfl rfl ?_
  refine xcst 3 (0) ⟨u227, _, rfl⟩ rfl (by decide) (fun z2 h2 => ?_)
  refine xist2 5 ⟨u227, _, rfl⟩ rfl rfl ?_
  exact l227E hB ha hb aV bV hR V 0 _ _ hp h2 (by omega) h0 hH (bFr.refl _ _)
theorem fL_at {B : Nat → Bool} {n m q : Nat} (h : B n = true) (e : (fL B n).length = q) (hm : n < m) : q < (fL B m).length ∧ (fL B m).getD q 0 = n := by
  have l1 : (fL B (n + 1)).length = q + 1 := by rw [fL_add h, List.length_append, List.length_singleton, e]
  have l2 := fL_le (B := B) (show n + 1 ≤ m by omega)
  have hq : q < (fL B m).length := by omega
  obtain ⟨g1, g2, g3⟩ := fL_get (B := B) m q hq
  refine ⟨hq, ?_⟩
  rcases Nat.lt_trichotomy ((fL B m).getD q 0) n with g | g | g
  · have l3 := fL_le (B := B) (show (fL B m).getD q 0 + 1 ≤ n by omega)
    rw [fL_add g1, List.length_append, List.length_singleton, g3, e] at l3
    omega
  · exact g
  · have l3 := fL_le (B := B) (show n + 1 ≤ (fL B m).getD q 0 by omega)
    rw [g3, l1] at l3
    omega
theorem l228E {d V a b : Nat} {T : sT} {hp0 : amH} {R : xQ} {wa wb wq : Int32} (hB0 : rdOk hp0 V T) (ha : wa.toInt = (a : Int)) (hb : wb.toInt = (b : Int)) (aV : a < V) (bV : b < V)
    (hR : ∀ (z : Int32) hp1, bHk 84 bTT hp1 → bFr wWkE hp0 hp1 → z.toInt = (if 0 ≤ wq.toInt ∧ wq.toInt < (((cyS T a b V).length : Nat) : Int) then 1 else 0) → (0 ≤ wq.toInt → wq.toInt < (((cyS T a b V).length : Nat) : Int) → rN hp1 66 17 = ((cyL T a b ((cyS T a b V).getD wq.toInt.toNat 0) : Nat) : Int) ∧ ∀ k, k < cyL T a b ((cyS T a b V).getD wq.toInt.toNat 0) → rN hp1 78 k = ((rk T a b ((cyS T a b V).getD wq.toInt.toNat 0) k : Nat) : Int)) → R (.inl (some (.int z))) hp1) :
    ∀ (jj i : Nat) (w wi : Int32) (hp : amH), wi.toInt = (i : Int) → i + jj = V → w.toInt = wq.toInt - (((cyS T a b i).length : Nat) : Int) → (0 ≤ wq.toInt → 0 ≤ w.toInt) → bHk 84 bTT hp → bFr wWkE hp0 hp → xV (d + 3) am_m228 6 [some (.ref 66), some (.int wa), some (.int wb), some (.int wq), some (.int w), some (.int wi)] [] hp R := by
  have hT : sOk V T := hB0.2.1
  have hV := hT.2.1
  intro jj
  induction jj with
  | zero =>
    intro i w wi hp hwi hj hw hn hH hF
    have q0 : rN hp 67 0 = (V : Int) := (r_fr hF rfl).trans hB0.1
    have ei : i = V := by omega
    rw [ei] at hw
    refine xild2 8 ⟨u228, _, rfl⟩ rfl rfl ?_
    refine xald 9 ⟨u228, _, rfl⟩ rfl rfl ?_
    refine xcall 12 [.ref 66] [.int _] hH ⟨u228, _, rfl⟩ rfl rfl rfl rfl rfl (k_points hH (fun z9 h9 => ⟨_, rfl, ?_⟩))
    refine xcmp_ge 15 ⟨u228, _, rfl⟩ rfl (fun c12 => ?_) (fun c12 => ?_)
    · refine xcst 51 (0) ⟨u228, _, rfl⟩ rfl (by decide) (fun z50 h50 => ?_)
      exact xretB ⟨u228, _, rfl⟩ rfl (by omega) (hR _ hp hH hF (by rw [if_neg (by omega)]; exact h50) (fun z1 z2 => by omega))
    · omega
  | succ jj ih =>
    intro i w wi hp hwi hj hw hn hH hF
    have q0 : rN hp 67 0 = (V : Int) := (r_fr hF rfl).trans hB0.1
    have hB : rdOk hp V T := rdOk_fr hB0 (fun i => r_fr hF rfl)
    have em := aMin wq
    have ex := aMax wq
    have li := fL_n (B := cyB T a b) i
    have ly : cyB T a b i = true → (cyS T a b (i + 1)).length = (cyS T a b i).length + 1 := fun h => by rw [show cyS T a b (i + 1) = cyS T a b i ++ [i] from fL_add h, List.length_append, List.length_singleton]
    have ln : ¬ cyB T a b i = true → (cyS T a b (i + 1)).length = (cyS T a b i).length := fun h => by rw [show cyS T a b (i + 1) = cyS T a b i from fL_skip h]
    have li : (cyS T a b i).length ≤ i := li
    refine xild2 8 ⟨u228, _, rfl⟩ rfl rfl ?_
    refine xald 9 ⟨u228, _, rfl⟩ rfl rfl ?_
    refine xcall 12 [.ref 66] [.int _] hH ⟨u228, _, rfl⟩ rfl rfl rfl rfl rfl (k_points hH (fun z9 h9 => ⟨_, rfl, ?_⟩))
    refine xcmp_ge 15 ⟨u228, _, rfl⟩ rfl (fun c12 => ?_) (fun c12 => ?_)
    · omega
    · refine xild2 17 ⟨u228, _, rfl⟩ rfl rfl ?_
      refine xif_lt 20 ⟨u228, _, rfl⟩ rfl (fun c17 => ?_) (fun c17 => ?_)
      · refine xcst 51 (0) ⟨u228, _, rfl⟩ rfl (by decide) (fun z50 h50 => ?_)
        exact xretB ⟨u228, _, rfl⟩ rfl (by omega) (hR _ hp hH hF (by rw [if_neg (by omega)]; exact h50) (fun z1 z2 => by omega))
      · refine xald 21 ⟨u228, _, rfl⟩ rfl rfl ?_
        refine xild 22 ⟨u228, _, rfl⟩ rfl rfl ?_
        refine xild 23 ⟨u228, _, rfl⟩ rfl rfl ?_
        refine xild2 25 ⟨u228, _, rfl⟩ rfl rfl ?_
        refine xcall 28 [.ref 66, .int _, .int _, .int _] [] hH ⟨u228, _, rfl⟩ rfl rfl rfl rfl rfl (k_226E (x := i) hH hB ha hb aV bV hwi (by omega) (fun z25 hp25 hH25 F25 h25 r25 => ⟨_, rfl, ?_⟩))
        refine xif_ne 31 ⟨u228, _, rfl⟩ rfl (fun c28 => ?_) (fun c28 => ?_)
        · have yb : cyB T a b i = true := by
            by_cases g : cyB T a b i = true
            · exact g
            · rw [if_neg g] at h25; omega
          have l1 := ly yb
          obtain ⟨m25, q25⟩ := r25 yb
          refine xild2 36 ⟨u228, _, rfl⟩ rfl rfl ?_
          refine xif_ne 39 ⟨u228, _, rfl⟩ rfl (fun c36 => ?_) (fun c36 => ?_)
          · refine xinc 44 (-1) ⟨u228, _, rfl⟩ rfl rfl rfl (by decide) (by omega) (by omega) (fun z41 h41 => ?_)
            refine xinc 47 (1) ⟨u228, _, rfl⟩ rfl rfl rfl (by decide) (by omega) (by omega) (fun z44 h44 => ?_)
            refine xgoto ⟨u228, _, rfl⟩ ?_
            exact ih (i + 1) z41 z44 hp25 (by omega) (by omega) (by omega) (by omega) hH25 (hF.trans F25)
          · refine xcst 40 (1) ⟨u228, _, rfl⟩ rfl (by decide) (fun z39 h39 => ?_)
            have at1 := fL_at (m := V) yb (show (cyS T a b i).length = wq.toInt.toNat by omega) (by omega)
            obtain ⟨at1, at2⟩ := at1
            have at1 : wq.toInt.toNat < (cyS T a b V).length := at1
            have at2 : (cyS T a b V).getD wq.toInt.toNat 0 = i := at2
            exact xretB ⟨u228, _, rfl⟩ rfl (by omega) (hR _ hp25 hH25 (hF.trans F25) (by rw [if_pos (by omega)]; exact h39) (fun _ _ => by rw [at2]; exact ⟨m25, q25⟩))
        · have nb : ¬ cyB T a b i = true := fun z => by rw [if_pos z] at h25; omega
          have l1 := ln nb
          refine xgoto ⟨u228, _, rfl⟩ ?_
          refine xinc 47 (1) ⟨u228, _, rfl⟩ rfl rfl rfl (by decide) (by omega) (by omega) (fun z44 h44 => ?_)
          refine xgoto ⟨u228, _, rfl⟩ ?_
          exact ih (i + 1) w z44 hp25 (by omega) (by omega) (by omega) (by omega) hH25 (hF.trans F25)
theorem k_228E {d V a b : Nat} {T : sT} {hp : amH} {R : xQ} {wa wb wq : Int32} (hH : bHk 84 bTT hp) (hB : rdOk hp V T) (ha : wa.toInt = (a : Int)) (hb : wb.toInt = (b : Int)) (aV : a < V) (bV : b < V)
    (hR : ∀ (z : Int32) hp1, bHk 84 bTT hp1 → bFr wWkE hp hp1 → z.toInt = (if 0 ≤ wq.toInt ∧ wq.toInt < (((cyS T a b V).length : Nat) : Int) then 1 else 0) → (0 ≤ wq.toInt → wq.toInt < (((cyS T a b V).length : Nat) : Int) → rN hp1 66 17 = ((cyL T a b ((cyS T a b V).getD wq.toInt.toNat 0) : Nat) : Int) ∧ ∀ k, k < cyL T a b ((cyS T a b V).getD wq.toInt.toNat 0) → rN hp1 78 k = ((rk T a b ((cyS T a b V).getD wq.toInt.toNat 0) k : Nat) : Int)) → R (.inl (some (.int z))) hp1) : xK (d + 3) 228 [.ref 66, .int wa, .int wb, .int wq] hp R := by
  refine xin (M := am_m228) rfl rfl rfl ?_
  refine xild 1 ⟨u228, _, rfl⟩ rfl rfl ?_
  refine xist2 3 ⟨u228, _, rfl⟩ rfl rfl ?_
  refine xcst 4 (0) ⟨u228, _, rfl⟩ rfl (by decide) (fun z3 h3 => ?_)
  refine xist2 6 ⟨u228, _, rfl⟩ rfl rfl ?_
  exact l228E hB ha hb aV bV hR V 0 _ _ hp h3 (by omega) (by show wq.toInt = wq.toInt - ((0 : Nat) : Int); omega) (fun z => z) hH (bFr.refl _ _)
