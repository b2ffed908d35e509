/-! ===== the class counts the quadrilaterals with a triple ===== -/
theorem u67 : bUp 0 am_m67.1 = true := by decide +kernel
theorem l67E {d o V x y z : Nat} {T : sT} {hp : amH} {R : xQ} {s a b c : Int32} (ho : bo o) (hH : bHk 84 bTT hp) (hB : bdOk hp o V T) (ha : a.toInt = (x : Int)) (hb : b.toInt = (y : Int)) (hc : c.toInt = (z : Int))
    (hR : ∀ r : Int32, r.toInt = ((cw V T x y z : Nat) : Int) → R (.inl (some (.int r))) hp) :
    ∀ (jj t : Nat) (w wt : Int32) (v7 v8 : Option Value), wt.toInt = (t : Int) → t + jj = V → w.toInt = ((sm (fun a => iv (¬ T x a = -1 ∧ ¬ a = y ∧ ¬ a = z ∧ ¬ T y a = -1 ∧ T y a = T z (T x a).toNat)) t : Nat) : Int) → xV (d + 2) am_m67 25 [some (.ref o), some (.int s), some (.int a), some (.int b), some (.int c), some (.int w), some (.int wt), v7, v8] [] hp R := by
  have hT := hB.2.1
  have hV := hT.2.1
  have e0 := hB.1
  intro jj
  induction jj with
  | zero =>
    intro t w wt v7 v8 hwt hj hw
    have et : t = V := by omega
    subst et
    refine xild2 27 ⟨u67, _, rfl⟩ rfl rfl ?_
    refine xald 28 ⟨u67, _, rfl⟩ rfl rfl ?_
    refine xgetC 31 hH ⟨u67, _, rfl⟩ rfl (bo_lt ho) (by decide) (bo_T ho) rfl (by decide) (fun z28 h28 => ?_)
    refine xcmp_ge 34 ⟨u67, _, rfl⟩ rfl (fun c31 => ?_) (fun c31 => ?_)
    · refine xild2 108 ⟨u67, _, rfl⟩ rfl rfl ?_
      exact xret ⟨u67, _, rfl⟩ rfl (hR _ hw)
    · omega
  | succ jj ih =>
    intro t w wt v7 v8 hwt hj hw
    have lw : sm (fun a => iv (¬ T x a = -1 ∧ ¬ a = y ∧ ¬ a = z ∧ ¬ T y a = -1 ∧ T y a = T z (T x a).toNat)) t ≤ sm (fun _ => 1) t := sm_le t (fun i _ => iv_le)
    rw [sm_const] at lw
    have st : sm (fun a => iv (¬ T x a = -1 ∧ ¬ a = y ∧ ¬ a = z ∧ ¬ T y a = -1 ∧ T y a = T z (T x a).toNat)) (t + 1) = sm (fun a => iv (¬ T x a = -1 ∧ ¬ a = y ∧ ¬ a = z ∧ ¬ T y a = -1 ∧ T y a = T z (T x a).toNat)) t + iv (¬ T x t = -1 ∧ ¬ t = y ∧ ¬ t = z ∧ ¬ T y t = -1 ∧ T y t = T z (T x t).toNat) := rfl
    refine xild2 27 ⟨u67, _, rfl⟩ rfl rfl ?_
    refine xald 28 ⟨u67, _, rfl⟩ rfl rfl ?_
    refine xgetC 31 hH ⟨u67, _, rfl⟩ rfl (bo_lt ho) (by decide) (bo_T ho) rfl (by decide) (fun z28 h28 => ?_)
    refine xcmp_ge 34 ⟨u67, _, rfl⟩ rfl (fun c31 => ?_) (fun c31 => ?_)
    · omega
    · refine xald 35 ⟨u67, _, rfl⟩ rfl rfl ?_
      refine xild 36 ⟨u67, _, rfl⟩ rfl rfl ?_
      refine xild2 38 ⟨u67, _, rfl⟩ rfl rfl ?_
      refine xcallC 41 (o := o) [.int _, .int _] [] hH ⟨u67, _, rfl⟩ rfl rfl (bo_lt ho) (bo_T ho) (by decide) rfl ⟨rfl, rfl, rfl, rfl⟩ rfl (k_thd ho hH hB (fun z38 h38 => ⟨_, rfl, ?_⟩))
      rw [if_pos (by omega), show a.toInt.toNat = x by omega, show wt.toInt.toNat = t by omega] at h38
      refine xist2 43 ⟨u67, _, rfl⟩ rfl rfl ?_
      refine xild2 45 ⟨u67, _, rfl⟩ rfl rfl ?_
      refine xcst 46 (-1) ⟨u67, _, rfl⟩ rfl (by decide) (fun z45 h45 => ?_)
      refine xcmp_eq 49 ⟨u67, _, rfl⟩ rfl (fun c46 => ?_) (fun c46 => ?_)
      · have q0 : iv (¬ T x t = -1 ∧ ¬ t = y ∧ ¬ t = z ∧ ¬ T y t = -1 ∧ T y t = T z (T x t).toNat) = 0 := iv_f (fun g => by omega)
        refine xinc 103 (1) ⟨u67, _, rfl⟩ rfl rfl rfl (by decide) (by omega) (by omega) (fun z100 h100 => ?_)
        refine xgoto ⟨u67, _, rfl⟩ ?_
        exact ih (t + 1) w z100 _ _ (by omega) (by omega) (by rw [st]; omega)
      · refine xild2 51 ⟨u67, _, rfl⟩ rfl rfl ?_
        refine xild 52 ⟨u67, _, rfl⟩ rfl rfl ?_
        refine xcmp_eq 55 ⟨u67, _, rfl⟩ rfl (fun c52 => ?_) (fun c52 => ?_)
        · have q0 : iv (¬ T x t = -1 ∧ ¬ t = y ∧ ¬ t = z ∧ ¬ T y t = -1 ∧ T y t = T z (T x t).toNat) = 0 := iv_f (fun g => by omega)
          refine xinc 103 (1) ⟨u67, _, rfl⟩ rfl rfl rfl (by decide) (by omega) (by omega) (fun z100 h100 => ?_)
          refine xgoto ⟨u67, _, rfl⟩ ?_
          exact ih (t + 1) w z100 _ _ (by omega) (by omega) (by rw [st]; omega)
        · refine xild2 57 ⟨u67, _, rfl⟩ rfl rfl ?_
          refine xild2 59 ⟨u67, _, rfl⟩ rfl rfl ?_
          refine xcmp_eq 62 ⟨u67, _, rfl⟩ rfl (fun c59 => ?_) (fun c59 => ?_)
          · have q0 : iv (¬ T x t = -1 ∧ ¬ t = y ∧ ¬ t = z ∧ ¬ T y t = -1 ∧ T y t = T z (T x t).toNat) = 0 := iv_f (fun g => by omega)
            refine xinc 103 (1) ⟨u67, _, rfl⟩ rfl rfl rfl (by decide) (by omega) (by omega) (fun z100 h100 => ?_)
            refine xgoto ⟨u67, _, rfl⟩ ?_
            exact ih (t + 1) w z100 _ _ (by omega) (by omega) (by rw [st]; omega)
          · refine xald 63 ⟨u67, _, rfl⟩ rfl rfl ?_
            refine xild 64 ⟨u67, _, rfl⟩ rfl rfl ?_
            refine xild2 66 ⟨u67, _, rfl⟩ rfl rfl ?_
            refine xcallC 69 (o := o) [.int _, .int _] [] hH ⟨u67, _, rfl⟩ rfl rfl (bo_lt ho) (bo_T ho) (by decide) rfl ⟨rfl, rfl, rfl, rfl⟩ rfl (k_thd ho hH hB (fun z66 h66 => ⟨_, rfl, ?_⟩))
            rw [if_pos (by omega), show b.toInt.toNat = y by omega, show wt.toInt.toNat = t by omega] at h66
            refine xist2 71 ⟨u67, _, rfl⟩ rfl rfl ?_
            refine xild2 73 ⟨u67, _, rfl⟩ rfl rfl ?_
            refine xild2 75 ⟨u67, _, rfl⟩ rfl rfl ?_
            refine xcst 76 (-1) ⟨u67, _, rfl⟩ rfl (by decide) (fun z75 h75 => ?_)
            refine xcmp_eq 79 ⟨u67, _, rfl⟩ rfl (fun c76 => ?_) (fun c76 => ?_)
            · have q0 : iv (¬ T x t = -1 ∧ ¬ t = y ∧ ¬ t = z ∧ ¬ T y t = -1 ∧ T y t = T z (T x t).toNat) = 0 := iv_f (fun g => by omega)
              refine xcst 97 (0) ⟨u67, _, rfl⟩ rfl (by decide) (fun z96 h96 => ?_)
              refine xadd 98 _ ⟨u67, _, rfl⟩ rfl rfl (by omega) (by omega) (fun z97 h97 => ?_)
              refine xist2 100 ⟨u67, _, rfl⟩ rfl rfl ?_
              refine xinc 103 (1) ⟨u67, _, rfl⟩ rfl rfl rfl (by decide) (by omega) (by omega) (fun z100 h100 => ?_)
              refine xgoto ⟨u67, _, rfl⟩ ?_
              exact ih (t + 1) z97 z100 _ _ (by omega) (by omega) (by rw [st]; omega)
            · refine xild2 81 ⟨u67, _, rfl⟩ rfl rfl ?_
              refine xald 82 ⟨u67, _, rfl⟩ rfl rfl ?_
              refine xild2 84 ⟨u67, _, rfl⟩ rfl rfl ?_
              refine xild2 86 ⟨u67, _, rfl⟩ rfl rfl ?_
              refine xcallC 89 (o := o) [.int _, .int _] [.int _, .int _] hH ⟨u67, _, rfl⟩ rfl rfl (bo_lt ho) (bo_T ho) (by decide) rfl ⟨rfl, rfl, rfl, rfl⟩ rfl (k_thd ho hH hB (fun z86 h86 => ⟨_, rfl, ?_⟩))
              obtain ⟨k, ek, -⟩ := sOk_at hT (a := x) (b := t) rfl (by omega)
              rw [if_pos (by omega), show c.toInt.toNat = z by omega, show z38.toInt.toNat = (T x t).toNat by rw [h38]] at h86
              refine xcmp_ne 92 ⟨u67, _, rfl⟩ rfl (fun c89 => ?_) (fun c89 => ?_)
              · have q0 : iv (¬ T x t = -1 ∧ ¬ t = y ∧ ¬ t = z ∧ ¬ T y t = -1 ∧ T y t = T z (T x t).toNat) = 0 := iv_f (fun g => by omega)
                refine xcst 97 (0) ⟨u67, _, rfl⟩ rfl (by decide) (fun z96 h96 => ?_)
                refine xadd 98 _ ⟨u67, _, rfl⟩ rfl rfl (by omega) (by omega) (fun z97 h97 => ?_)
                refine xist2 100 ⟨u67, _, rfl⟩ rfl rfl ?_
                refine xinc 103 (1) ⟨u67, _, rfl⟩ rfl rfl rfl (by decide) (by omega) (by omega) (fun z100 h100 => ?_)
                refine xgoto ⟨u67, _, rfl⟩ ?_
                exact ih (t + 1) z97 z100 _ _ (by omega) (by omega) (by rw [st]; omega)
              · have q1 : iv (¬ T x t = -1 ∧ ¬ t = y ∧ ¬ t = z ∧ ¬ T y t = -1 ∧ T y t = T z (T x t).toNat) = 1 := iv_t ⟨by omega, by omega, by omega, by omega, by omega⟩
                refine xcst 93 (1) ⟨u67, _, rfl⟩ rfl (by decide) (fun z92 h92 => ?_)
                refine xgoto ⟨u67, _, rfl⟩ ?_
                refine xadd 98 _ ⟨u67, _, rfl⟩ rfl rfl (by omega) (by omega) (fun z97 h97 => ?_)
                refine xist2 100 ⟨u67, _, rfl⟩ rfl rfl ?_
                refine xinc 103 (1) ⟨u67, _, rfl⟩ rfl rfl rfl (by decide) (by omega) (by omega) (fun z100 h100 => ?_)
                refine xgoto ⟨u67, _, rfl⟩ ?_
                exact ih (t + 1) z97 z100 _ _ (by omega) (by omega) (by rw [st]; omega)
theorem k_cnt {d o V x y z : Nat} {T : sT} {hp : amH} {R : xQ} {s : Int32} (ho : bo o) (hH : bHk 84 bTT hp) (hB : bdOk hp o V T) (hs : s.toInt = ((m3 x y z : Nat) : Int)) (h1 : x < y) (h2 : y < z) (h3 : z < V)
    (hR : ∀ r : Int32, r.toInt = ((cw V T x y z : Nat) : Int) → R (.inl (some (.int r))) hp) : xK (d + 2) 67 [.ref o, .int s] hp R := by
  have hV := hB.2.1.2.1
  have ml : m3 x y z < 32768 := m3_lt (by omega) (by omega) (by omega)
  obtain ⟨mm0, mm1, mm2⟩ := mem3 h1 h2 (show z < 15 by omega)
  refine xin (M := am_m67) rfl rfl (by unfold xAv; simp [amOk, bo_lt ho, Value.category]) ?_
  refine xild 1 ⟨u67, _, rfl⟩ rfl rfl ?_
  refine xcst 2 (0) ⟨u67, _, rfl⟩ rfl (by decide) (fun z1 h1 => ?_)
  refine xcallS 5 [.int _, .int _] [] hH ⟨u67, _, rfl⟩ rfl rfl rfl rfl rfl (k_mem hH hs ml (i := 0) (by omega) (fun z2 h2 => ⟨_, rfl, ?_⟩))
  rw [mm0] at h2
  refine xist 6 ⟨u67, _, rfl⟩ rfl rfl ?_
  refine xild 7 ⟨u67, _, rfl⟩ rfl rfl ?_
  refine xcst 8 (1) ⟨u67, _, rfl⟩ rfl (by decide) (fun z7 h7 => ?_)
  refine xcallS 11 [.int _, .int _] [] hH ⟨u67, _, rfl⟩ rfl rfl rfl rfl rfl (k_mem hH hs ml (i := 1) (by omega) (fun z8 h8 => ⟨_, rfl, ?_⟩))
  rw [mm1] at h8
  refine xist 12 ⟨u67, _, rfl⟩ rfl rfl ?_
  refine xild 13 ⟨u67, _, rfl⟩ rfl rfl ?_
  refine xcst 14 (2) ⟨u67, _, rfl⟩ rfl (by decide) (fun z13 h13 => ?_)
  refine xcallS 17 [.int _, .int _] [] hH ⟨u67, _, rfl⟩ rfl rfl rfl rfl rfl (k_mem hH hs ml (i := 2) (by omega) (fun z14 h14 => ⟨_, rfl, ?_⟩))
  rw [mm2] at h14
  refine xist2 19 ⟨u67, _, rfl⟩ rfl rfl ?_
  refine xcst 20 (0) ⟨u67, _, rfl⟩ rfl (by decide) (fun z19 h19 => ?_)
  refine xist2 22 ⟨u67, _, rfl⟩ rfl rfl ?_
  refine xcst 23 (0) ⟨u67, _, rfl⟩ rfl (by decide) (fun z22 h22 => ?_)
  refine xist2 25 ⟨u67, _, rfl⟩ rfl rfl ?_
  refine xpad 2 ?_
  exact l67E ho hH hB h2 h8 h14 hR V 0 _ _ _ _ (by omega) (by omega) (by show z19.toInt = ((0 : Nat) : Int); omega)
