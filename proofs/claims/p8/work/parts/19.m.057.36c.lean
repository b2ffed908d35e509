/-! ===== the class's undo, save, restore; remove on both sides ===== -/
theorem u173 : bUp 0 am_m173.1 = true := by decide +kernel
theorem u174 : bUp 0 am_m174.1 = true := by decide +kernel
theorem u175 : bUp 0 am_m175.1 = true := by decide +kernel
theorem u127 : bUp 0 am_m127.1 = true := by decide +kernel
theorem k_173E {d n : Nat} {h : Nat → sR} {sv : Option sR} {q : sR} {hp : amH} {R : xQ} (hH : bHk 84 bTT hp) (hS : clS hp q n h sv)
    (hR : ∀ (z : Int32) hp1, bHk 84 bTT hp1 → cF hp hp1 → ((n = 0 ∧ z.toInt = -1 ∧ clS hp1 q n h sv) ∨ (0 < n ∧ z.toInt = ((n - 1 : Nat) : Int) ∧ clS hp1 (h (n - 1)) (n - 1) h sv)) → R (.inl (some (.int z))) hp1) : xK (d + 6) 173 [.ref 0] hp R := by
  refine xin (M := am_m173) rfl rfl rfl ?_
  refine xald 1 ⟨u173, _, rfl⟩ rfl rfl ?_
  refine xgetD 4 (14) hH ⟨u173, _, rfl⟩ rfl (by decide) (by decide) rfl rfl (by decide) ?_
  refine xald 5 ⟨u173, _, rfl⟩ rfl rfl ?_
  refine xgetD 8 (3) hH ⟨u173, _, rfl⟩ rfl (by decide) (by decide) rfl rfl (by decide) ?_
  refine xald 9 ⟨u173, _, rfl⟩ rfl rfl ?_
  refine xgetD 12 (13) hH ⟨u173, _, rfl⟩ rfl (by decide) (by decide) rfl rfl (by decide) ?_
  refine xcallC 15 (o := 14) [.ref 3, .ref 13] [] hH ⟨u173, _, rfl⟩ rfl rfl (by decide) rfl (by decide) rfl ⟨rfl, rfl, rfl, rfl⟩ rfl (k_tkb hH hS.2.2.2.2 (fun z12 hp12 hH12 F12 V12 => ⟨_, rfl, ?_⟩))
  refine xif_ne 18 ⟨u173, _, rfl⟩ rfl (fun c15 => ?_) (fun c15 => ?_)
  · obtain ⟨n0, y12, b12, t12⟩ : 0 < n ∧ hyC hp12 (n - 1) h sv ∧ bdOk hp12 3 (h (n - 1)).1 (h (n - 1)).2.1 ∧ ∀ i, i < 3 → rN hp12 13 i = (h (n - 1)).2.2 i := by
      rcases V12 with ⟨a, b, -⟩ | ⟨a, -, b, c, e⟩
      · omega
      · exact ⟨a, b, c, e⟩
    refine xald 21 ⟨u173, _, rfl⟩ rfl rfl ?_
    refine xcallC 24 (o := 0) [] [] hH12 ⟨u173, _, rfl⟩ rfl rfl (by decide) rfl (by decide) rfl ⟨rfl, rfl, rfl, rfl⟩ rfl (k_stS hH12 b12 t12 y12 (fun hp21 hH21 F21 S21 => ⟨_, rfl, ?_⟩))
    have d21 : rN hp21 14 0 = ((n - 1 : Nat) : Int) := S21.2.2.2.2.1
    refine xald 25 ⟨u173, _, rfl⟩ rfl rfl ?_
    refine xgetD 28 (14) hH21 ⟨u173, _, rfl⟩ rfl (by decide) (by decide) rfl rfl (by decide) ?_
    refine xgetC 31 hH21 ⟨u173, _, rfl⟩ rfl (by decide) (by decide) rfl rfl (by decide) (fun z28 h28 => ?_)
    exact xret ⟨u173, _, rfl⟩ rfl (hR _ hp21 hH21 ((cF_x F12 (by simp)).trans (cF_x F21 (by simp))) (Or.inr ⟨n0, by omega, S21⟩))
  · refine xcst 19 (-1) ⟨u173, _, rfl⟩ rfl (by decide) (fun z18 h18 => ?_)
    rcases V12 with ⟨a, b, e⟩ | ⟨a, b, -⟩
    · subst e
      exact xret ⟨u173, _, rfl⟩ rfl (hR _ _ hH12 cF.refl (Or.inl ⟨a, h18, hS⟩))
    · omega
theorem k_174E {d V n : Nat} {h : Nat → sR} {sv : Option sR} {T : sT} {ty : Nat → Int} {hp : amH} {R : xQ} (hH : bHk 84 bTT hp) (hS : clS hp (V, T, ty) n h sv)
    (hR : ∀ (z : Int32) hp1, bHk 84 bTT hp1 → cF hp hp1 → clS hp1 (V, T, ty) n h (some (V, T, ty)) → z.toInt = (((trL T 225).length : Nat) : Int) → R (.inl (some (.int z))) hp1) : xK (d + 3) 174 [.ref 0] hp R := by
  have hB : bdOk hp 3 V T := hS.1
  have hL : lsN hp 3 T 225 := hS.2.1
  have hQ : qdN hp T 42875 := hS.2.2.1
  have ht : ∀ i, i < 3 → rN hp 13 i = ty i := hS.2.2.2.1
  refine xin (M := am_m174) rfl rfl rfl ?_
  refine xald 1 ⟨u174, _, rfl⟩ rfl rfl ?_
  refine xgetD 4 (14) hH ⟨u174, _, rfl⟩ rfl (by decide) (by decide) rfl rfl (by decide) ?_
  refine xald 5 ⟨u174, _, rfl⟩ rfl rfl ?_
  refine xgetD 8 (3) hH ⟨u174, _, rfl⟩ rfl (by decide) (by decide) rfl rfl (by decide) ?_
  refine xald 9 ⟨u174, _, rfl⟩ rfl rfl ?_
  refine xgetD 12 (13) hH ⟨u174, _, rfl⟩ rfl (by decide) (by decide) rfl rfl (by decide) ?_
  refine xcallC 15 (o := 14) [.ref 3, .ref 13] [] hH ⟨u174, _, rfl⟩ rfl rfl (by decide) rfl (by decide) rfl ⟨rfl, rfl, rfl, rfl⟩ rfl (k_sav hH hS.2.2.2.2 hB hL (fun hp12 hH12 F12 Y12 => ⟨_, rfl, ?_⟩))
  have L12 : lsN hp12 3 T 225 := lsN_fr hL (hyF_n F12 (by omega)) (fun _ => hyF_n F12 (by omega)) (fun _ => hyF_n F12 (by omega))
  have l12 := L12.1
  refine xald 16 ⟨u174, _, rfl⟩ rfl rfl ?_
  refine xgetD 19 (3) hH12 ⟨u174, _, rfl⟩ rfl (by decide) (by decide) rfl rfl (by decide) ?_
  refine xgetC 22 hH12 ⟨u174, _, rfl⟩ rfl (by decide) (by decide) rfl rfl (by decide) (fun z19 h19 => ?_)
  exact xret ⟨u174, _, rfl⟩ rfl (hR _ hp12 hH12 (cF_hy F12) ⟨bdOk_fr hB (hyF_n F12 (by omega)) (fun _ => hyF_n F12 (by omega)) (fun _ => hyF_n F12 (by omega)), L12, qdN_fr hQ (fun c k hc => F12 c k (by omega)), fun i hi => (hyF_n F12 (by omega)).trans (ht i hi), ⟨Y12.1, Y12.2.1, Y12.2.2.1, Y12.2.2.2.1, ⟨Y12.2.2.2.2.1, snOk_ty Y12.2.2.2.2.2 ht⟩⟩⟩ (by omega))
theorem k_175E {d n : Nat} {h : Nat → sR} {sv : Option sR} {q : sR} {hp : amH} {R : xQ} (hH : bHk 84 bTT hp) (hS : clS hp q n h sv)
    (hT : sv = none → R (.inr 2) hp)
    (hR : ∀ (z : Int32) hp1 q1, bHk 84 bTT hp1 → cF hp hp1 → sv = some q1 → clS hp1 q1 0 h sv → z.toInt = (((trL q1.2.1 225).length : Nat) : Int) → R (.inl (some (.int z))) hp1) : xK (d + 6) 175 [.ref 0] hp R := by
  refine xin (M := am_m175) rfl rfl rfl ?_
  refine xald 1 ⟨u175, _, rfl⟩ rfl rfl ?_
  refine xgetD 4 (14) hH ⟨u175, _, rfl⟩ rfl (by decide) (by decide) rfl rfl (by decide) ?_
  refine xald 5 ⟨u175, _, rfl⟩ rfl rfl ?_
  refine xgetD 8 (3) hH ⟨u175, _, rfl⟩ rfl (by decide) (by decide) rfl rfl (by decide) ?_
  refine xald 9 ⟨u175, _, rfl⟩ rfl rfl ?_
  refine xgetD 12 (13) hH ⟨u175, _, rfl⟩ rfl (by decide) (by decide) rfl rfl (by decide) ?_
  refine xcallC 15 (o := 14) [.ref 3, .ref 13] [] hH ⟨u175, _, rfl⟩ rfl rfl (by decide) rfl (by decide) rfl ⟨rfl, rfl, rfl, rfl⟩ rfl (k_rsr hH hS.2.2.2.2 (fun z12 hp12 hH12 F12 V12 => ⟨_, rfl, ?_⟩))
  refine xif_ne 18 ⟨u175, _, rfl⟩ rfl (fun c15 => ?_) (fun c15 => ?_)
  · obtain ⟨q1, e1, y12, b12, t12⟩ : ∃ q1, sv = some q1 ∧ hyC hp12 0 h sv ∧ bdOk hp12 3 q1.1 q1.2.1 ∧ ∀ i, i < 3 → rN hp12 13 i = q1.2.2 i := by
      rcases V12 with ⟨a, b, -⟩ | ⟨q1, a, -, b, c, e⟩
      · omega
      · exact ⟨q1, a, b, c, e⟩
    refine xald 30 ⟨u175, _, rfl⟩ rfl rfl ?_
    refine xcallC 33 (o := 0) [] [] hH12 ⟨u175, _, rfl⟩ rfl rfl (by decide) rfl (by decide) rfl ⟨rfl, rfl, rfl, rfl⟩ rfl (k_stS hH12 b12 t12 y12 (fun hp30 hH30 F30 S30 => ⟨_, rfl, ?_⟩))
    have d30 := S30.2.1.1
    have d30 : rN hp30 3 1 = (((trL q1.2.1 225).length : Nat) : Int) := d30
    refine xald 34 ⟨u175, _, rfl⟩ rfl rfl ?_
    refine xgetD 37 (3) hH30 ⟨u175, _, rfl⟩ rfl (by decide) (by decide) rfl rfl (by decide) ?_
    refine xgetC 40 hH30 ⟨u175, _, rfl⟩ rfl (by decide) (by decide) rfl rfl (by decide) (fun z37 h37 => ?_)
    exact xret ⟨u175, _, rfl⟩ rfl (hR _ hp30 q1 hH30 ((cF_x F12 (by simp)).trans (cF_x F30 (by simp))) e1 S30 (by omega))
  · exact xthr ⟨u175, _, rfl⟩ (by decide) rfl (by decide) (by rcases V12 with ⟨a, b, e⟩ | ⟨q1, a, b, -⟩; subst e; exact hT a; omega)
/-- the triple numbered t taken -/
def tkT (T : sT) (t : Nat) : sT := sTake T ((trL T 225).getD t 0 / 15) ((trL T 225).getD t 0 % 15) (T ((trL T 225).getD t 0 / 15) ((trL T 225).getD t 0 % 15)).toNat
theorem k_127E {d V n : Nat} {h : Nat → sR} {sv : Option sR} {T : sT} {ty : Nat → Int} {hp : amH} {R : xQ} {t : Int32} (hH : bHk 84 bTT hp) (hS : clS hp (V, T, ty) n h sv)
    (hT : ¬ gTri (trL T 225).length t.toInt = 0 → R (.inr 1) hp)
    (hR : ∀ (z : Int32) hp1, bHk 84 bTT hp1 → cF hp hp1 → gTri (trL T 225).length t.toInt = 0 → clS hp1 (V, tkT T t.toInt.toNat, ty) (pM n + 1) (pH n h (V, T, ty)) sv → z.toInt = (((trL (tkT T t.toInt.toNat) 225).length : Nat) : Int) → R (.inl (some (.int z))) hp1) : xK (d + 6) 127 [.ref 0, .int t] hp R := by
  have hB : bdOk hp 3 V T := hS.1
  have hL : lsN hp 3 T 225 := hS.2.1
  have L1 := hL.1
  refine xin (M := am_m127) rfl rfl rfl ?_
  refine xald 1 ⟨u127, _, rfl⟩ rfl rfl ?_
  refine xild 2 ⟨u127, _, rfl⟩ rfl rfl ?_
  refine xcallT 5 (o := 0) [.int _] [] hH ⟨u127, _, rfl⟩ rfl rfl (by decide) rfl (by decide) rfl ⟨rfl, rfl, rfl, rfl⟩ rfl (k_rqt hH L1 (fun g2 => Or.inl ⟨_, rfl, ?_⟩) (fun g2 => Or.inr ⟨_, rfl, rfl, hT (by omega)⟩))
  have k2 := gTri_0.mp g2
  obtain ⟨q1, q2, q3⟩ := trL_get 225 t.toInt.toNat (show t.toInt.toNat < (trL T 225).length by omega)
  obtain ⟨z, ez, x1, x2, x3⟩ := tr_pts hB.2.1 q1
  have em : mN T t.toInt.toNat = m3 ((trL T 225).getD t.toInt.toNat 0 / 15) ((trL T 225).getD t.toInt.toNat 0 % 15) z := by unfold mN mk3; rw [ez, Int.toNat_natCast]
  have etk : tkT T t.toInt.toNat = sTake T ((trL T 225).getD t.toInt.toNat 0 / 15) ((trL T 225).getD t.toInt.toNat 0 % 15) z := by unfold tkT; rw [ez, Int.toNat_natCast]
  refine xald 6 ⟨u127, _, rfl⟩ rfl rfl ?_
  refine xcallC 9 (o := 0) [] [] hH ⟨u127, _, rfl⟩ rfl rfl (by decide) rfl (by decide) rfl ⟨rfl, rfl, rfl, rfl⟩ rfl (k_cmS hH hS (fun hp6 hH6 F6 S6 => ⟨_, rfl, ?_⟩))
  refine xald 10 ⟨u127, _, rfl⟩ rfl rfl ?_
  refine xgetD 13 (3) hH6 ⟨u127, _, rfl⟩ rfl (by decide) (by decide) rfl rfl (by decide) ?_
  refine xald 14 ⟨u127, _, rfl⟩ rfl rfl ?_
  refine xgetD 17 (3) hH6 ⟨u127, _, rfl⟩ rfl (by decide) (by decide) rfl rfl (by decide) ?_
  refine xild 18 ⟨u127, _, rfl⟩ rfl rfl ?_
  refine xcallC 21 (o := 3) [.int _] [.ref 3] hH6 ⟨u127, _, rfl⟩ rfl rfl (by decide) rfl (by decide) rfl ⟨rfl, rfl, rfl, rfl⟩ rfl (k_setL hH6 S6.2.1 (t := t.toInt.toNat) (by omega) (by show t.toInt.toNat < (trL T 225).length; omega) (fun z18 h18 => ⟨_, rfl, ?_⟩))
  have h18 : z18.toInt = ((mN T t.toInt.toNat : Nat) : Int) := h18
  refine xcallC 24 (o := 3) [.int _] [] hH6 ⟨u127, _, rfl⟩ rfl rfl (by decide) rfl (by decide) rfl ⟨rfl, rfl, rfl, rfl⟩ rfl (k_bdrop (o := 3) (Or.inl rfl) hH6 S6.1 (by rw [h18, em]) x1 x2 ez (fun hp21 hH21 F21 B21 => ⟨_, rfl, ?_⟩))
  have B21 : bdOk hp21 3 V (tkT T t.toInt.toNat) := by rw [etk]; exact B21
  refine xald 25 ⟨u127, _, rfl⟩ rfl rfl ?_
  refine xcallC 28 (o := 0) [] [] hH21 ⟨u127, _, rfl⟩ rfl rfl (by decide) rfl (by decide) rfl ⟨rfl, rfl, rfl, rfl⟩ rfl (k_stS hH21 (ty := ty) B21 (fun i hi => (bFx_n F21 (by simp)).trans (S6.2.2.2.1 i hi)) (hyC_fr S6.2.2.2.2 (fun c k c1 c2 => F21 c k (by simp; omega))) (fun hp25 hH25 F25 S25 => ⟨_, rfl, ?_⟩))
  have d25 : rN hp25 3 1 = (((trL (tkT T t.toInt.toNat) 225).length : Nat) : Int) := S25.2.1.1
  refine xald 29 ⟨u127, _, rfl⟩ rfl rfl ?_
  refine xgetD 32 (3) hH25 ⟨u127, _, rfl⟩ rfl (by decide) (by decide) rfl rfl (by decide) ?_
  refine xgetC 35 hH25 ⟨u127, _, rfl⟩ rfl (by decide) (by decide) rfl rfl (by decide) (fun z32 h32 => ?_)
  exact xret ⟨u127, _, rfl⟩ rfl (hR _ hp25 hH25 ((cF_hy F6).trans ((cF_x F21 (by simp)).trans (cF_x F25 (by simp)))) g2 S25 (by omega))
