/-! ===== degree on both sides ===== -/
theorem bc_one : ∀ x y z p : Fin 15, x.1 < y.1 → y.1 < z.1 → (1 ≤ bcN (m3 x.1 y.1 z.1 &&& 2 ^ p.1) ↔ (p.1 = x.1 ∨ p.1 = y.1 ∨ p.1 = z.1)) := by
  intro x y z p h1 h2
  have t : ∀ a b : Nat, ((2 ^ a).testBit b).toNat = if a = b then 1 else 0 := fun a b => by
    rw [Nat.testBit_two_pow]
    by_cases e : a = b
    · rw [if_pos e, decide_eq_true e]; rfl
    · rw [if_neg e, decide_eq_false e]; rfl
  rw [bc_and h1 h2 z.2, t, t, t]
  split <;> split <;> split <;> omega
theorem pts2 : ∀ x y z p : Fin 15, x.1 < y.1 → y.1 < z.1 → sm (fun v => iv ((p.1 = x.1 ∨ p.1 = y.1 ∨ p.1 = z.1) ∧ (v = x.1 ∨ v = y.1 ∨ v = z.1) ∧ ¬ p.1 = v)) 15 = 2 * iv (p.1 = x.1 ∨ p.1 = y.1 ∨ p.1 = z.1) := by
  intro x y z p h1 h2
  have key : ∀ a b : Nat, a < 15 → b < 15 → ¬ a = b → sm (fun v => iv (v = a ∨ v = b)) 15 = 2 := fun a b ha hb hab => by
    rw [sm_ext 15 (fun v _ => iv_or (p := v = a) (q := v = b) (fun w => hab (w.1.symm.trans w.2))), sm_add, sm_eq1 ha, sm_eq1 hb]
  by_cases g1 : p.1 = x.1
  · rw [iv_t (p := p.1 = x.1 ∨ p.1 = y.1 ∨ p.1 = z.1) (Or.inl g1)]
    exact (sm_ext 15 (fun v _ => iv_eq (by omega))).trans (key y.1 z.1 y.2 z.2 (by omega))
  · by_cases g2 : p.1 = y.1
    · rw [iv_t (p := p.1 = x.1 ∨ p.1 = y.1 ∨ p.1 = z.1) (Or.inr (Or.inl g2))]
      exact (sm_ext 15 (fun v _ => iv_eq (by omega))).trans (key x.1 z.1 x.2 z.2 (by omega))
    · by_cases g3 : p.1 = z.1
      · rw [iv_t (p := p.1 = x.1 ∨ p.1 = y.1 ∨ p.1 = z.1) (Or.inr (Or.inr g3))]
        exact (sm_ext 15 (fun v _ => iv_eq (by omega))).trans (key x.1 y.1 x.2 y.2 (by omega))
      · rw [iv_f (p := p.1 = x.1 ∨ p.1 = y.1 ∨ p.1 = z.1) (by omega)]
        exact sm_none (fun v _ => iv_f (by omega))
theorem one_t {V : Nat} {T : sT} (hT : sOk V T) {t p : Nat} (ht : t < (trL T 225).length) (hp : p < 15) : sm (fun v => iv (onL T t p ∧ onL T t v ∧ ¬ p = v)) 15 = 2 * iv (1 ≤ bcN (mN T t &&& 2 ^ p)) := by
  obtain ⟨x, y, z, h1, h2, h3, h4, -, h6⟩ := on_pts hT ht
  have h15 := hT.2.1
  have k := bc_one ⟨x, by omega⟩ ⟨y, by omega⟩ ⟨z, by omega⟩ ⟨p, hp⟩ h1 h2
  have k2 : 1 ≤ bcN (mN T t &&& 2 ^ p) ↔ (p = x ∨ p = y ∨ p = z) := by rw [h4]; exact k
  rw [iv_eq k2]
  refine Eq.trans ?_ (pts2 ⟨x, by omega⟩ ⟨y, by omega⟩ ⟨z, by omega⟩ ⟨p, hp⟩ h1 h2)
  refine sm_ext _ (fun v _ => iv_eq ?_)
  rw [h6, h6]
/-- each triple at a point covers two of its pairs -/
theorem deg_2 {V : Nat} {T : sT} (hT : sOk V T) {p : Nat} (hp : p < 15) : sm (fun v => iv (¬ T p v = -1)) 15 = 2 * mtC T (2 ^ p) 1 (trL T 225).length := by
  have e : sm (fun v => iv (¬ T p v = -1)) 15 = sm (fun v => sm (fun t => iv (onL T t p ∧ onL T t v ∧ ¬ p = v)) (trL T 225).length) 15 := by
    refine sm_ext _ (fun v _ => ?_)
    by_cases g : T p v = -1
    · rw [iv_f (p := ¬ T p v = -1) (fun z => z g)]
      exact Eq.symm (sm_none (fun t ht => iv_f (fun z => (on_T hT ht z.1 z.2.1 z.2.2).1 g)))
    · obtain ⟨w, -, -, -, -, -, huv, -, -, k1, -, k2, k3, -⟩ := li_s hT g
      rw [iv_t (p := ¬ T p v = -1) g]
      exact Eq.symm (sm_one k1 (iv_t ⟨k2, k3, huv⟩) (fun t ht hne => iv_f (fun z => hne (on_1 hT ht k1 huv z.1 z.2.1 k2 k3))))
  rw [e, sm_swap]
  unfold mtC
  rw [← sm_mul]
  exact sm_ext _ (fun t ht => one_t hT ht hp)
theorem u123 : bUp 0 am_m123.1 = true := by decide +kernel
theorem k_123E {d V n : Nat} {h : Nat → sR} {sv : Option sR} {T : sT} {ty : Nat → Int} {hp : amH} {R : xQ} {a : Int32} (hH : bHk 84 bTT hp) (hS : clS hp (V, T, ty) n h sv)
    (hT : ∀ E hp1, bHk 84 bTT hp1 → cF hp hp1 → clS hp1 (V, T, ty) n h sv → ¬ gPt V a.toInt = 0 → ((gPt V a.toInt = 1 ∧ E = 1)) → R (.inr E) hp1)
    (hR : ∀ (z : Int32) hp1, bHk 84 bTT hp1 → cF hp hp1 → gPt V a.toInt = 0 → clS hp1 (V, T, ty) n h sv → z.toInt = ((mtC T (2 ^ a.toInt.toNat) 1 (trL T 225).length : Nat) : Int) → R (.inl (some (.int z))) hp1) : xK (d + 3) 123 [.ref 0, .int a] hp R := by
  have hB : bdOk hp 3 V T := hS.1
  have b0 : rN hp 3 0 = (V : Int) := hB.1
  have hL : lsN hp 3 T 225 := hS.2.1
  have b1 : rN hp 3 1 = (((trL T 225).length : Nat) : Int) := hL.1
  have hT0 : sOk V T := hB.2.1
  have h15 : V ≤ 15 := hT0.2.1
  have l35 : (trL T 225).length ≤ 35 := trL_35 hT0 225
  have nq0 : rN hp 49 0 = ((nQ T : Nat) : Int) := hS.2.2.1.1
  refine xin (M := am_m123) rfl rfl rfl ?_
  refine xald 1 ⟨u123, _, rfl⟩ rfl rfl ?_
  refine xild 2 ⟨u123, _, rfl⟩ rfl rfl ?_
  refine xcallT 5 (o := 0) [.int _] [] hH ⟨u123, _, rfl⟩ rfl rfl (by decide) rfl (by decide) rfl ⟨rfl, rfl, rfl, rfl⟩ rfl (k_rq1 hH b0 (fun g2 => Or.inl ⟨_, rfl, ?_⟩) (fun g2 => Or.inr ⟨_, rfl, rfl, hT _ hp hH cF.refl hS (by omega) ⟨g2, rfl⟩⟩))
  have k2 := gPt_0.mp g2
  refine xald 6 ⟨u123, _, rfl⟩ rfl rfl ?_
  refine xgetD 9 (3) hH ⟨u123, _, rfl⟩ rfl (by decide) (by decide) rfl rfl (by decide) ?_
  refine xcst 10 (1) ⟨u123, _, rfl⟩ rfl (by decide) (fun z9 h9 => ?_)
  refine xild 11 ⟨u123, _, rfl⟩ rfl rfl ?_
  refine xshl 12 ⟨u123, _, rfl⟩ rfl ?_
  have e1 := i_shl h9 (n := a.toInt.toNat) (c := a) (by omega) (by omega)
  refine xcst 13 (1) ⟨u123, _, rfl⟩ rfl (by decide) (fun z12 h12 => ?_)
  refine xcallC 16 (o := 3) [.int _, .int _] [] hH ⟨u123, _, rfl⟩ rfl rfl (by decide) rfl (by decide) rfl ⟨rfl, rfl, rfl, rfl⟩ rfl (k_26E (m := 2 ^ a.toInt.toNat) hT0 hH hL e1.1 (Nat.lt_of_lt_of_le (Nat.pow_lt_pow_right (by decide) (show a.toInt.toNat < 15 by omega)) (by decide)) (fun z13 h13 => ⟨_, rfl, ?_⟩))
  exact xret ⟨u123, _, rfl⟩ rfl (hR _ _ hH cF.refl g2 hS (by rw [h13, h12]))
theorem u267 : bUp 0 am_m267.1 = true := by decide +kernel
theorem dg_le {f : Nat → Nat} (h : ∀ i, f i ≤ 1) : ∀ n, sm f n ≤ n
  | 0 => Nat.le_refl _
  | n + 1 => by
    have h1 := dg_le h n
    have h2 := h n
    show sm f n + f n ≤ n + 1
    omega
theorem l267E {d V p : Nat} {T : sT} {hp : amH} {R : xQ} {a : Int32} (hH : bHk 84 bTT hp) (hB : rdOk hp V T) (ha : a.toInt = (p : Int)) (hpV : p < V)
    (hR : ∀ z : Int32, z.toInt = ((mtC T (2 ^ p) 1 (trL T 225).length : Nat) : Int) → R (.inl (some (.int z))) hp) :
    ∀ (jj t : Nat) (w wt : Int32), wt.toInt = (t : Int) → t + jj = V → w.toInt = ((sm (fun v => iv (¬ T p v = -1)) t : Nat) : Int) → xV (d + 1) am_m267 14 [some (.ref 66), some (.int a), some (.int w), some (.int wt)] [] hp R := by
  have hT := hB.2.1
  have h15 := hT.2.1
  have b0 : rN hp 67 0 = (V : Int) := hB.1
  intro jj
  induction jj with
  | zero =>
    intro t w wt hwt hj hw
    have et : t = V := by omega
    have k := deg_2 hT (show p < 15 by omega)
    have k2 : sm (fun v => iv (¬ T p v = -1)) 15 = sm (fun v => iv (¬ T p v = -1)) V := sm_tail h15 (fun v h1 _ => iv_f (fun z => by
      obtain ⟨w, -, -, -, hv, -⟩ := li_s hT z
      omega))
    rw [et] at hw
    refine xild 15 ⟨u267, _, rfl⟩ rfl rfl ?_
    refine xald 16 ⟨u267, _, rfl⟩ rfl rfl ?_
    refine xcall 19 [.ref 66] [.int _] hH ⟨u267, _, rfl⟩ rfl rfl rfl rfl rfl (k_points hH (fun z16 h16 => ⟨_, rfl, ?_⟩))
    refine xcmp_ge 22 ⟨u267, _, rfl⟩ rfl (fun c19 => ?_) (fun c19 => ?_)
    · refine xild 52 ⟨u267, _, rfl⟩ rfl rfl ?_
      refine xcst 53 (2) ⟨u267, _, rfl⟩ rfl (by decide) (fun z52 h52 => ?_)
      refine xdiv 54 (Int32.toInt w / 2) ⟨u267, _, rfl⟩ rfl (by omega) (by omega) (by rw [h52]) (fun z53 h53 => ?_)
      exact xret ⟨u267, _, rfl⟩ rfl (hR _ (by omega))
    · omega
  | succ jj ih =>
    intro t w wt hwt hj hw
    have k2 := dg_le (f := fun v => iv (¬ T p v = -1)) (fun i => iv_le) t
    have hne : T p p = -1 := by
      rcases hT.2.2 p p with g | ⟨c, -, -, -, -, g, -⟩
      · exact g
      · exact absurd rfl g
    refine xild 15 ⟨u267, _, rfl⟩ rfl rfl ?_
    refine xald 16 ⟨u267, _, rfl⟩ rfl rfl ?_
    refine xcall 19 [.ref 66] [.int _] hH ⟨u267, _, rfl⟩ rfl rfl rfl rfl rfl (k_points hH (fun z16 h16 => ⟨_, rfl, ?_⟩))
    refine xcmp_ge 22 ⟨u267, _, rfl⟩ rfl (fun c19 => ?_) (fun c19 => ?_)
    · omega
    · refine xild 23 ⟨u267, _, rfl⟩ rfl rfl ?_
      refine xild 24 ⟨u267, _, rfl⟩ rfl rfl ?_
      refine xild 25 ⟨u267, _, rfl⟩ rfl rfl ?_
      refine xcmp_eq 28 ⟨u267, _, rfl⟩ rfl (fun c25 => ?_) (fun c25 => ?_)
      · refine xcst 43 (0) ⟨u267, _, rfl⟩ rfl (by decide) (fun z42 h42 => ?_)
        refine xadd 44 _ ⟨u267, _, rfl⟩ rfl rfl (by omega) (by omega) (fun z43 h43 => ?_)
        refine xist 45 ⟨u267, _, rfl⟩ rfl rfl ?_
        refine xinc 48 (1) ⟨u267, _, rfl⟩ rfl rfl rfl (by decide) (by omega) (by omega) (fun z45 h45 => ?_)
        refine xgoto ⟨u267, _, rfl⟩ ?_
        exact ih (t + 1) _ _ (by omega) (by omega) (by show _ = ((sm (fun v => iv (¬ T p v = -1)) t + iv (¬ T p t = -1) : Nat) : Int); rw [iv_f (p := ¬ T p t = -1) (fun z => z (by rw [show t = p by omega]; exact hne))]; omega)
      · refine xald 29 ⟨u267, _, rfl⟩ rfl rfl ?_
        refine xild 30 ⟨u267, _, rfl⟩ rfl rfl ?_
        refine xild 31 ⟨u267, _, rfl⟩ rfl rfl ?_
        refine xcall 34 [.ref 66, .int _, .int _] [.int _] hH ⟨u267, _, rfl⟩ rfl rfl rfl rfl rfl (k_third hH (by omega) (by omega) (by omega) (by omega) (fun z31 h31 => ⟨_, rfl, ?_⟩))
        have h31 : z31.toInt = T p t := by rw [h31, hB.2.2.1 _ _ (by omega) (by omega), show a.toInt.toNat = p by omega, show wt.toInt.toNat = t by omega]
        refine xcst 35 (-1) ⟨u267, _, rfl⟩ rfl (by decide) (fun z34 h34 => ?_)
        refine xcmp_eq 38 ⟨u267, _, rfl⟩ rfl (fun c35 => ?_) (fun c35 => ?_)
        · refine xcst 43 (0) ⟨u267, _, rfl⟩ rfl (by decide) (fun z42 h42 => ?_)
          refine xadd 44 _ ⟨u267, _, rfl⟩ rfl rfl (by omega) (by omega) (fun z43 h43 => ?_)
          refine xist 45 ⟨u267, _, rfl⟩ rfl rfl ?_
          refine xinc 48 (1) ⟨u267, _, rfl⟩ rfl rfl rfl (by decide) (by omega) (by omega) (fun z45 h45 => ?_)
          refine xgoto ⟨u267, _, rfl⟩ ?_
          exact ih (t + 1) _ _ (by omega) (by omega) (by show _ = ((sm (fun v => iv (¬ T p v = -1)) t + iv (¬ T p t = -1) : Nat) : Int); rw [iv_f (p := ¬ T p t = -1) (fun z => z (by omega))]; omega)
        · refine xcst 39 (1) ⟨u267, _, rfl⟩ rfl (by decide) (fun z38 h38 => ?_)
          refine xgoto ⟨u267, _, rfl⟩ ?_
          refine xadd 44 _ ⟨u267, _, rfl⟩ rfl rfl (by omega) (by omega) (fun z43 h43 => ?_)
          refine xist 45 ⟨u267, _, rfl⟩ rfl rfl ?_
          refine xinc 48 (1) ⟨u267, _, rfl⟩ rfl rfl rfl (by decide) (by omega) (by omega) (fun z45 h45 => ?_)
          refine xgoto ⟨u267, _, rfl⟩ ?_
          exact ih (t + 1) _ _ (by omega) (by omega) (by show _ = ((sm (fun v => iv (¬ T p v = -1)) t + iv (¬ T p t = -1) : Nat) : Int); rw [iv_t (p := ¬ T p t = -1) (by omega)]; omega)
theorem k_267E {d V n : Nat} {h : Nat → sR} {sv : Option sR} {T : sT} {ty : Nat → Int} {hp : amH} {R : xQ} {a : Int32} (hH : bHk 84 bTT hp) (hP : P0 hp) (hS : rfS hp (V, T, ty) n h sv)
    (hR : ∀ (z : Int32) hp1, bHk 84 bTT hp1 → P0 hp1 → bFr wM hp hp1 → rN hp1 66 7 = gPt V a.toInt → ((¬ gPt V a.toInt = 0 ∧ rfS hp1 (V, T, ty) n h sv) ∨ (gPt V a.toInt = 0 ∧ rfS hp1 (V, T, ty) n h sv ∧ z.toInt = ((mtC T (2 ^ a.toInt.toNat) 1 (trL T 225).length : Nat) : Int))) → R (.inl (some (.int z))) hp1) : xK (d + 3) 267 [.ref 66, .int a] hp R := by
  have hB : rdOk hp V T := rowOk_rd hS.1
  have b0 : rN hp 67 0 = (V : Int) := hB.1
  have hT0 : sOk V T := hB.2.1
  have h15 : V ≤ 15 := hT0.2.1
  have l35 : (trL T 225).length ≤ 35 := trL_35 hT0 225
  refine xin (M := am_m267) rfl rfl rfl ?_
  refine xald 1 ⟨u267, _, rfl⟩ rfl rfl ?_
  refine xild 2 ⟨u267, _, rfl⟩ rfl rfl ?_
  refine xcall 5 [.ref 66, .int _] [] hH ⟨u267, _, rfl⟩ rfl rfl rfl rfl rfl (k_gp1 hH b0 h15 (fun z2 hp2 hH2 F2 t2 o2 => ⟨_, rfl, ?_⟩))
  have S2 := rfS_W hS F2 (fun _ => rfl) rfl rfl (fun _ => rfl) (fun _ => rfl)
  have P2 : P0 hp2 := P0_W (W := [(66, 7)]) (by decide) F2 hP
  refine xif_eq 8 ⟨u267, _, rfl⟩ rfl (fun c5 => ?_) (fun c5 => ?_)
  · have g2 : gPt V a.toInt = 0 := by omega
    have k2 := gPt_0.mp g2
    refine xcst 11 (0) ⟨u267, _, rfl⟩ rfl (by decide) (fun z10 h10 => ?_)
    refine xist 12 ⟨u267, _, rfl⟩ rfl rfl ?_
    refine xcst 13 (0) ⟨u267, _, rfl⟩ rfl (by decide) (fun z12 h12 => ?_)
    refine xist 14 ⟨u267, _, rfl⟩ rfl rfl ?_
    exact l267E hH2 (show rdOk hp2 V T from rowOk_rd S2.1) (p := a.toInt.toNat) (by omega) (by omega) (fun z h => hR z hp2 hH2 P2 (bFr_sub F2 (by decide)) t2 (Or.inr ⟨g2, S2, h⟩)) V 0 _ _ h12 (by omega) h10
  · refine xcst 9 (0) ⟨u267, _, rfl⟩ rfl (by decide) (fun z8 h8 => ?_)
    exact xret ⟨u267, _, rfl⟩ rfl (hR _ hp2 hH2 P2 (bFr_sub F2 (by decide)) t2 (Or.inl ⟨by omega, S2⟩))
theorem h352E {d : Nat} {hp : amH} {R : cQ} {x1 : Int32} {V n : Nat} {h : Nat → sR} {sv : Option sR} {T : sT} {ty : Nat → Int} (hI : lawI hp) (c : clS hp (V, T, ty) n h sv) (r : rfS hp (V, T, ty) n h sv)
    (hR : ∀ (z : Int32) hp1 mc ms, lawI hp1 → rfS hp1 (V, T, ty) n h sv → z.toInt = gPt V x1.toInt → ((¬ gPt V x1.toInt = 0 ∧ clS hp1 (V, T, ty) n h sv) ∨ (gPt V x1.toInt = 0 ∧ clS hp1 (V, T, ty) n h sv ∧ rJ hp1 83 0 = ((mtC T (2 ^ x1.toInt.toNat) 1 (trL T 225).length : Nat) : Int))) → mc ≤ 1 → ms ≤ 6 → R (.inl (some (.int z))) hp1 mc ms) : cK (d + 20) 352 [.ref 0, .int x1, .ref 83] hp R := by
  refine cin (M := am_m352) rfl rfl rfl ?_
  refine cald 1 ⟨u352J, _, rfl⟩ rfl rfl ?_
  refine ccst 2 (0) ⟨u352J, _, rfl⟩ rfl (by decide) (fun z1 h1 => ?_)
  refine cald 3 ⟨u352J, _, rfl⟩ rfl rfl ?_
  refine cild 4 ⟨u352J, _, rfl⟩ rfl rfl ?_
  refine ccall (kd := 0) (t := 1) [.ref 0, .int _] [.int _, .ref 83] hI.1 ⟨u352J, _, rfl⟩ (Or.inl ⟨_, rfl, rfl, by decide, by decide⟩) rfl rfl rfl ⟨rfl, rfl, rfl⟩ rfl (recv0 hI.1 _) rfl (qKE (Φ := fun z hp1 => bHk 84 bTT hp1 ∧ cF hp hp1 ∧ gPt V x1.toInt = 0 ∧ clS hp1 (V, T, ty) n h sv ∧ z.toInt = ((mtC T (2 ^ x1.toInt.toNat) 1 (trL T 225).length : Nat) : Int)) (Ψ := fun E hp1 => lawI hp1 ∧ rfS hp1 (V, T, ty) n h sv ∧ clS hp1 (V, T, ty) n h sv ∧ ¬ gPt V x1.toInt = 0 ∧ ((gPt V x1.toInt = 1 ∧ E = 1))) (fun R g1 g2 => k_123E (d := d + 16) hI.1 c (fun E hp1 b1 b2 b3 e1 e2 => g2 E hp1 ⟨law_cl hI b1 b2, cF_rf b2 r, b3, e1, e2⟩) (fun z hp1 a1 a2 a3 a4 a5 => g1 z hp1 ⟨a1, a2, a3, a4, a5⟩)) (fun z hp1 φ => Or.inl ⟨_, rfl, ?_⟩) (fun E hp1 ψ => Or.inr ?_))
  · refine ci2lE 8 ⟨u352J, _, rfl⟩ rfl (fun w hw => ?_)
    refine clastE 9 φ.1 ⟨u352J, _, rfl⟩ rfl h1 (fun hp2 hH2 F2 J2 => ?_)
    refine cgoto ⟨u352J, _, rfl⟩ ?_
    refine ccst 16 (0) ⟨u352J, _, rfl⟩ rfl (by decide) (fun z9 h9 => ?_)
    exact cret ⟨u352J, _, rfl⟩ (Or.inl rfl) (hR _ _ _ _ (lawI_83 (law_cl hI φ.1 φ.2.1) hH2 F2) (rf_83 F2 (cF_rf φ.2.1 r)) (by rw [φ.2.2.1]; exact h9) (Or.inr ⟨φ.2.2.1, cl_83 F2 φ.2.2.2.1, by rw [J2, hw]; exact φ.2.2.2.2⟩) (by decide) (by decide))
  · obtain ⟨ψ0, ψr, ψc, ψ1, ψ2⟩ := ψ
    obtain ⟨ce, rfl⟩ := ψ2
    refine ⟨1, 12, 3, 13, rfl, rfl, rfl, rfl, ?_⟩
    refine ccst 14 (1) ⟨u352J, _, rfl⟩ rfl (by decide) (fun z9 h9 => ?_)
    exact cret ⟨u352J, _, rfl⟩ (Or.inl rfl) (hR _ _ _ _ ψ0 ψr (by rw [ce]; exact h9) (Or.inl ⟨ψ1, ψc⟩) (by decide) (by decide))
