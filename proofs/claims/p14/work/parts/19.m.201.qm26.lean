/-! ===== how many triples meet a set ===== -/
noncomputable def mtC (T : sT) (m : Nat) (c : Int) (t : Nat) : Nat := sm (fun s => iv (c ≤ bcN (mN T s &&& m))) t
theorem mtC_le {T : sT} {m : Nat} {c : Int} : ∀ t, mtC T m c t ≤ t
  | 0 => Nat.le_refl _
  | t + 1 => by
    have h1 := mtC_le (T := T) (m := m) (c := c) t
    have h2 : iv (c ≤ bcN (mN T t &&& m)) ≤ 1 := iv_le
    show mtC T m c t + iv (c ≤ bcN (mN T t &&& m)) ≤ t + 1
    omega
theorem mtC_s {T : sT} {m : Nat} {c : Int} {t : Nat} : mtC T m c (t + 1) = mtC T m c t + iv (c ≤ bcN (mN T t &&& m)) := rfl
theorem u26 : bUp 0 am_m26.1 = true := by decide +kernel
theorem l26E {d m V : Nat} {T : sT} {hp : amH} {R : xQ} {s wc : Int32} (hT : sOk V T) (hH : bHk 84 bTT hp) (hL : lsN hp 3 T 225) (hs : s.toInt = (m : Int)) (hm : m < 32768)
    (hR : ∀ z : Int32, z.toInt = ((mtC T m wc.toInt (trL T 225).length : Nat) : Int) → R (.inl (some (.int z))) hp) :
    ∀ (jj t : Nat) (w wt : Int32), wt.toInt = (t : Int) → t + jj = (trL T 225).length → w.toInt = ((mtC T m wc.toInt t : Nat) : Int) → xV (d + 1) am_m26 5 [some (.ref 3), some (.int s), some (.int wc), some (.int w), some (.int wt)] [] hp R := by
  have l35 := trL_35 hT 225
  have L1 := hL.1
  intro jj
  induction jj with
  | zero =>
    intro t w wt hwt hj hw
    have et : (trL T 225).length = t := by omega
    have hR2 : ∀ z : Int32, z.toInt = ((mtC T m wc.toInt t : Nat) : Int) → R (.inl (some (.int z))) hp := by rw [← et]; exact hR
    refine xild2 7 ⟨u26, _, rfl⟩ rfl rfl ?_
    refine xald 8 ⟨u26, _, rfl⟩ rfl rfl ?_
    refine xgetC 11 hH ⟨u26, _, rfl⟩ rfl (by decide) (by decide) rfl rfl (by decide) (fun z8 h8 => ?_)
    refine xcmp_ge 14 ⟨u26, _, rfl⟩ rfl (fun c11 => ?_) (fun c11 => ?_)
    · refine xild 39 ⟨u26, _, rfl⟩ rfl rfl ?_
      exact xret ⟨u26, _, rfl⟩ rfl (hR2 _ hw)
    · omega
  | succ jj ih =>
    intro t w wt hwt hj hw
    have k2 := mtC_le (T := T) (m := m) (c := wc.toInt) t
    have ml := (mN_lt hT (show t < (trL T 225).length by omega)).1
    have k3 := mtC_s (T := T) (m := m) (c := wc.toInt) (t := t)
    refine xild2 7 ⟨u26, _, rfl⟩ rfl rfl ?_
    refine xald 8 ⟨u26, _, rfl⟩ rfl rfl ?_
    refine xgetC 11 hH ⟨u26, _, rfl⟩ rfl (by decide) (by decide) rfl rfl (by decide) (fun z8 h8 => ?_)
    refine xcmp_ge 14 ⟨u26, _, rfl⟩ rfl (fun c11 => ?_) (fun c11 => ?_)
    · omega
    · refine xald 15 ⟨u26, _, rfl⟩ rfl rfl ?_
      refine xild2 17 ⟨u26, _, rfl⟩ rfl rfl ?_
      refine xcallC 20 (o := 3) [.int _] [] hH ⟨u26, _, rfl⟩ rfl rfl (by decide) rfl (by decide) rfl ⟨rfl, rfl, rfl, rfl⟩ rfl (k_setL hH hL (t := t) hwt (by omega) (fun z17 h17 => ⟨_, rfl, ?_⟩))
      refine xild 21 ⟨u26, _, rfl⟩ rfl rfl ?_
      refine xand 22 ⟨u26, _, rfl⟩ rfl ?_
      refine xcallS 25 [.int _] [] hH ⟨u26, _, rfl⟩ rfl rfl rfl rfl rfl (k_bc (i_and h17 hs ml).1 (fun z22 h22 => ⟨_, rfl, ?_⟩))
      refine xild 26 ⟨u26, _, rfl⟩ rfl rfl ?_
      refine xcmp_lt 29 ⟨u26, _, rfl⟩ rfl (fun c26 => ?_) (fun c26 => ?_)
      · refine xinc 35 (1) ⟨u26, _, rfl⟩ rfl rfl rfl (by decide) (by omega) (by omega) (fun z32 h32 => ?_)
        refine xgoto ⟨u26, _, rfl⟩ ?_
        exact ih (t + 1) _ _ (by omega) (by omega) (by rw [k3, iv_f (p := wc.toInt ≤ bcN (mN T t &&& m)) (by omega)]; omega)
      · refine xinc 32 (1) ⟨u26, _, rfl⟩ rfl rfl rfl (by decide) (by omega) (by omega) (fun z29 h29 => ?_)
        refine xinc 35 (1) ⟨u26, _, rfl⟩ rfl rfl rfl (by decide) (by omega) (by omega) (fun z32 h32 => ?_)
        refine xgoto ⟨u26, _, rfl⟩ ?_
        exact ih (t + 1) _ _ (by omega) (by omega) (by rw [k3, iv_t (p := wc.toInt ≤ bcN (mN T t &&& m)) (by omega)]; omega)
theorem k_26E {d m V : Nat} {T : sT} {hp : amH} {R : xQ} {s wc : Int32} (hT : sOk V T) (hH : bHk 84 bTT hp) (hL : lsN hp 3 T 225) (hs : s.toInt = (m : Int)) (hm : m < 32768)
    (hR : ∀ z : Int32, z.toInt = ((mtC T m wc.toInt (trL T 225).length : Nat) : Int) → R (.inl (some (.int z))) hp) : xK (d + 1) 26 [.ref 3, .int s, .int wc] hp R := by
  refine xin (M := am_m26) rfl rfl rfl ?_
  refine xcst 1 (0) ⟨u26, _, rfl⟩ rfl (by decide) (fun z0 h0 => ?_)
  refine xist 2 ⟨u26, _, rfl⟩ rfl rfl ?_
  refine xcst 3 (0) ⟨u26, _, rfl⟩ rfl (by decide) (fun z2 h2 => ?_)
  refine xist2 5 ⟨u26, _, rfl⟩ rfl rfl ?_
  exact l26E hT hH hL hs hm hR (trL T 225).length 0 _ _ h2 (by omega) h0
