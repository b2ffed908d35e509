/-! ##### 19.m.057.36c ##### -/
section
/-! ===== the class's undo, save, restore; remove on both sides ===== -/
theorem u173 : bUp 0 am_m173.1 = true := by decide +kernel
theorem u174 : bUp 0 am_m174.1 = true := by decide +kernel
theorem u175 : bUp 0 am_m175.1 = true := by decide +kernel
theorem u127 : bUp 0 am_m127.1 = true := by decide +kernel
theorem k_173E {d n : Nat} {h : Nat → sR} {sv : Option sR} {q : sR} {hp : amH} {R : xQ} (hH : bHk 84 bTT hp) (hS : clS hp q n h sv)
    (hR : ∀ (z : Int32) hp1, bHk 84 bTT hp1 → cF hp hp1 → ((n = 0 ∧ z.toInt = -1 ∧ clS hp1 q n h sv) ∨ (0 < n ∧ z.toInt = ((n - 1 : Nat) : Int) ∧ clS hp1 (h (n - 1)) (n - 1) h sv)) → R (.inl (some (.int z))) hp1) : xK (d + 6) 173 [.ref 0] hp R := by
  refine xin (M := am_m173) rfl rfl rfl ?_
  refine xald 1 ⟨u173, _, rfl⟩ rfl rfl ?_
  refine xgetD 4 (14) hH ⟨u173, _, rfl⟩ rfl (by decide) (by decide) rfl rfl (by decide) ?_
  refine xald 5 ⟨u173, _, rfl⟩ rfl rfl ?_
  refine xgetD 8 (3) hH ⟨u173, _, rfl⟩ rfl (by decide) (by decide) rfl rfl (by decide) ?_
  refine xald 9 ⟨u173, _, rfl⟩ rfl rfl ?_
  refine xgetD 12 (13) hH ⟨u173, _, rfl⟩ rfl (by decide) (by decide) rfl rfl (by decide) ?_
  refine xcallC 15 (o := 14) [.ref 3, .ref 13] [] hH ⟨u173, _, rfl⟩ rfl rfl (by decide) rfl (by decide) rfl ⟨rfl, rfl, rfl, rfl⟩ rfl (k_tkb hH hS.2.2.2.2 (fun z12 hp12 hH12 F12 V12 => ⟨_, rfl, ?_⟩))
  refine xif_ne 18 ⟨u173, _, rfl⟩ rfl (fun c15 => ?_) (fun c15 => ?_)
  · obtain ⟨n0, y12, b12, t12⟩ : 0 < n ∧ hyC hp12 (n - 1) h sv ∧ bdOk hp12 3 (h (n - 1)).1 (h (n - 1)).2.1 ∧ ∀ i, i < 3 → rN hp12 13 i = (h (n - 1)).2.2 i := by
      rcases V12 with ⟨a, b, -⟩ | ⟨a, -, b, c, e⟩
      · omega
      · exact ⟨a, b, c, e⟩
    refine xald 21 ⟨u173, _, rfl⟩ rfl rfl ?_
    refine xcallC 24 (o := 0) [] [] hH12 ⟨u173, _, rfl⟩ rfl rfl (by decide) rfl (by decide) rfl ⟨rfl, rfl, rfl, rfl⟩ rfl (k_stS hH12 b12 t12 y12 (fun hp21 hH21 F21 S21 => ⟨_, rfl, ?_⟩))
    have d21 : rN hp21 14 0 = ((n - 1 : Nat) : Int) := S21.2.2.2.2.1
    refine xald 25 ⟨u173, _, rfl⟩ rfl rfl ?_
    refine xgetD 28 (14) hH21 ⟨u173, _, rfl⟩ rfl (by decide) (by decide) rfl rfl (by decide) ?_
    refine xgetC 31 hH21 ⟨u173, _, rfl⟩ rfl (by decide) (by decide) rfl rfl (by decide) (fun z28 h28 => ?_)
    exact xret ⟨u173, _, rfl⟩ rfl (hR _ hp21 hH21 ((cF_x F12 (by simp)).trans (cF_x F21 (by simp))) (Or.inr ⟨n0, by omega, S21⟩))
  · refine xcst 19 (-1) ⟨u173, _, rfl⟩ rfl (by decide) (fun z18 h18 => ?_)
    rcases V12 with ⟨a, b, e⟩ | ⟨a, b, -⟩
    · subst e
      exact xret ⟨u173, _, rfl⟩ rfl (hR _ _ hH12 cF.refl (Or.inl ⟨a, h18, hS⟩))
    · omega
theorem k_174E {d V n : Nat} {h : Nat → sR} {sv : Option sR} {T : sT} {ty : Nat → Int} {hp : amH} {R : xQ} (hH : bHk 84 bTT hp) (hS : clS hp (V, T, ty) n h sv)
    (hR : ∀ (z : Int32) hp1, bHk 84 bTT hp1 → cF hp hp1 → clS hp1 (V, T, ty) n h (some (V, T, ty)) → z.toInt = (((trL T 225).length : Nat) : Int) → R (.inl (some (.int z))) hp1) : xK (d + 3) 174 [.ref 0] hp R := by
  have hB : bdOk hp 3 V T := hS.1
  have hL : lsN hp 3 T 225 := hS.2.1
  have hQ : qdN hp T 42875 := hS.2.2.1
  have ht : ∀ i, i < 3 → rN hp 13 i = ty i := hS.2.2.2.1
  refine xin (M := am_m174) rfl rfl rfl ?_
  refine xald 1 ⟨u174, _, rfl⟩ rfl rfl ?_
  refine xgetD 4 (14) hH ⟨u174, _, rfl⟩ rfl (by decide) (by decide) rfl rfl (by decide) ?_
  refine xald 5 ⟨u174, _, rfl⟩ rfl rfl ?_
  refine xgetD 8 (3) hH ⟨u174, _, rfl⟩ rfl (by decide) (by decide) rfl rfl (by decide) ?_
  refine xald 9 ⟨u174, _, rfl⟩ rfl rfl ?_
  refine xgetD 12 (13) hH ⟨u174, _, rfl⟩ rfl (by decide) (by decide) rfl rfl (by decide) ?_
  refine xcallC 15 (o := 14) [.ref 3, .ref 13] [] hH ⟨u174, _, rfl⟩ rfl rfl (by decide) rfl (by decide) rfl ⟨rfl, rfl, rfl, rfl⟩ rfl (k_sav hH hS.2.2.2.2 hB hL (fun hp12 hH12 F12 Y12 => ⟨_, rfl, ?_⟩))
  have L12 : lsN hp12 3 T 225 := lsN_fr hL (hyF_n F12 (by omega)) (fun _ => hyF_n F12 (by omega)) (fun _ => hyF_n F12 (by omega))
  have l12 := L12.1
  refine xald 16 ⟨u174, _, rfl⟩ rfl rfl ?_
  refine xgetD 19 (3) hH12 ⟨u174, _, rfl⟩ rfl (by decide) (by decide) rfl rfl (by decide) ?_
  refine xgetC 22 hH12 ⟨u174, _, rfl⟩ rfl (by decide) (by decide) rfl rfl (by decide) (fun z19 h19 => ?_)
  exact xret ⟨u174, _, rfl⟩ rfl (hR _ hp12 hH12 (cF_hy F12) ⟨bdOk_fr hB (hyF_n F12 (by omega)) (fun _ => hyF_n F12 (by omega)) (fun _ => hyF_n F12 (by omega)), L12, qdN_fr hQ (fun c k hc => F12 c k (by omega)), fun i hi => (hyF_n F12 (by omega)).trans (ht i hi), ⟨Y12.1, Y12.2.1, Y12.2.2.1, Y12.2.2.2.1, ⟨Y12.2.2.2.2.1, snOk_ty Y12.2.2.2.2.2 ht⟩⟩⟩ (by omega))
theorem k_175E {d n : Nat} {h : Nat → sR} {sv : Option sR} {q : sR} {hp : amH} {R : xQ} (hH : bHk 84 bTT hp) (hS : clS hp q n h sv)
    (hT : sv = none → R (.inr 2) hp)
    (hR : ∀ (z : Int32) hp1 q1, bHk 84 bTT hp1 → cF hp hp1 → sv = some q1 → clS hp1 q1 0 h sv → z.toInt = (((trL q1.2.1 225).length : Nat) : Int) → R (.inl (some (.int z))) hp1) : xK (d + 6) 175 [.ref 0] hp R := by
  refine xin (M := am_m175) rfl rfl rfl ?_
  refine xald 1 ⟨u175, _, rfl⟩ rfl rfl ?_
  refine xgetD 4 (14) hH ⟨u175, _, rfl⟩ rfl (by decide) (by decide) rfl rfl (by decide) ?_
  refine xald 5 ⟨u175, _, rfl⟩ rfl rfl ?_
  refine xgetD 8 (3) hH ⟨u175, _, rfl⟩ rfl (by decide) (by decide) rfl rfl (by decide) ?_
  refine xald 9 ⟨u175, _, rfl⟩ rfl rfl ?_
  refine xgetD 12 (13) hH ⟨u175, _, rfl⟩ rfl (by decide) (by decide) rfl rfl (by decide) ?_
  refine xcallC 15 (o := 14) [.ref 3, .ref 13] [] hH ⟨u175, _, rfl⟩ rfl rfl (by decide) rfl (by decide) rfl ⟨rfl, rfl, rfl, rfl⟩ rfl (k_rsr hH hS.2.2.2.2 (fun z12 hp12 hH12 F12 V12 => ⟨_, rfl, ?_⟩))
  refine xif_ne 18 ⟨u175, _, rfl⟩ rfl (fun c15 => ?_) (fun c15 => ?_)
  · obtain ⟨q1, e1, y12, b12, t12⟩ : ∃ q1, sv = some q1 ∧ hyC hp12 0 h sv ∧ bdOk hp12 3 q1.1 q1.2.1 ∧ ∀ i, i < 3 → rN hp12 13 i = q1.2.2 i := by
      rcases V12 with ⟨a, b, -⟩ | ⟨q1, a, -, b, c, e⟩
      · omega
      · exact ⟨q1, a, b, c, e⟩
    refine xald 30 ⟨u175, _, rfl⟩ rfl rfl ?_
    refine xcallC 33 (o := 0) [] [] hH12 ⟨u175, _, rfl⟩ rfl rfl (by decide) rfl (by decide) rfl ⟨rfl, rfl, rfl, rfl⟩ rfl (k_stS hH12 b12 t12 y12 (fun hp30 hH30 F30 S30 => ⟨_, rfl, ?_⟩))
    have d30 := S30.2.1.1
    have d30 : rN hp30 3 1 = (((trL q1.2.1 225).length : Nat) : Int) := d30
    refine xald 34 ⟨u175, _, rfl⟩ rfl rfl ?_
    refine xgetD 37 (3) hH30 ⟨u175, _, rfl⟩ rfl (by decide) (by decide) rfl rfl (by decide) ?_
    refine xgetC 40 hH30 ⟨u175, _, rfl⟩ rfl (by decide) (by decide) rfl rfl (by decide) (fun z37 h37 => ?_)
    exact xret ⟨u175, _, rfl⟩ rfl (hR _ hp30 q1 hH30 ((cF_x F12 (by simp)).trans (cF_x F30 (by simp))) e1 S30 (by omega))
  · exact xthr ⟨u175, _, rfl⟩ (by decide) rfl (by decide) (by rcases V12 with ⟨a, b, e⟩ | ⟨q1, a, b, -⟩; subst e; exact hT a; omega)
/-- the triple numbered t taken -/
def tkT (T : sT) (t : Nat) : sT := sTake T ((trL T 225).getD t 0 / 15) ((trL T 225).getD t 0 % 15) (T ((trL T 225).getD t 0 / 15) ((trL T 225).getD t 0 % 15)).toNat
theorem k_127E {d V n : Nat} {h : Nat → sR} {sv : Option sR} {T : sT} {ty : Nat → Int} {hp : amH} {R : xQ} {t : Int32} (hH : bHk 84 bTT hp) (hS : clS hp (V, T, ty) n h sv)
    (hT : ¬ gTri (trL T 225).length t.toInt = 0 → R (.inr 1) hp)
    (hR : ∀ (z : Int32) hp1, bHk 84 bTT hp1 → cF hp hp1 → gTri (trL T 225).length t.toInt = 0 → clS hp1 (V, tkT T t.toInt.toNat, ty) (pM n + 1) (pH n h (V, T, ty)) sv → z.toInt = (((trL (tkT T t.toInt.toNat) 225).length : Nat) : Int) → R (.inl (some (.int z))) hp1) : xK (d + 6) 127 [.ref 0, .int t] hp R := by
  have hB : bdOk hp 3 V T := hS.1
  have hL : lsN hp 3 T 225 := hS.2.1
  have L1 := hL.1
  refine xin (M := am_m127) rfl rfl rfl ?_
  refine xald 1 ⟨u127, _, rfl⟩ rfl rfl ?_
  refine xild 2 ⟨u127, _, rfl⟩ rfl rfl ?_
  refine xcallT 5 (o := 0) [.int _] [] hH ⟨u127, _, rfl⟩ rfl rfl (by decide) rfl (by decide) rfl ⟨rfl, rfl, rfl, rfl⟩ rfl (k_rqt hH L1 (fun g2 => Or.inl ⟨_, rfl, ?_⟩) (fun g2 => Or.inr ⟨_, rfl, rfl, hT (by omega)⟩))
  have k2 := gTri_0.mp g2
  obtain ⟨q1, q2, q3⟩ := trL_get 225 t.toInt.toNat (show t.toInt.toNat < (trL T 225).length by omega)
  obtain ⟨z, ez, x1, x2, x3⟩ := tr_pts hB.2.1 q1
  have em : mN T t.toInt.toNat = m3 ((trL T 225).getD t.toInt.toNat 0 / 15) ((trL T 225).getD t.toInt.toNat 0 % 15) z := by unfold mN mk3; rw [ez, Int.toNat_natCast]
  have etk : tkT T t.toInt.toNat = sTake T ((trL T 225).getD t.toInt.toNat 0 / 15) ((trL T 225).getD t.toInt.toNat 0 % 15) z := by unfold tkT; rw [ez, Int.toNat_natCast]
  refine xald 6 ⟨u127, _, rfl⟩ rfl rfl ?_
  refine xcallC 9 (o := 0) [] [] hH ⟨u127, _, rfl⟩ rfl rfl (by decide) rfl (by decide) rfl ⟨rfl, rfl, rfl, rfl⟩ rfl (k_cmS hH hS (fun hp6 hH6 F6 S6 => ⟨_, rfl, ?_⟩))
  refine xald 10 ⟨u127, _, rfl⟩ rfl rfl ?_
  refine xgetD 13 (3) hH6 ⟨u127, _, rfl⟩ rfl (by decide) (by decide) rfl rfl (by decide) ?_
  refine xald 14 ⟨u127, _, rfl⟩ rfl rfl ?_
  refine xgetD 17 (3) hH6 ⟨u127, _, rfl⟩ rfl (by decide) (by decide) rfl rfl (by decide) ?_
  refine xild 18 ⟨u127, _, rfl⟩ rfl rfl ?_
  refine xcallC 21 (o := 3) [.int _] [.ref 3] hH6 ⟨u127, _, rfl⟩ rfl rfl (by decide) rfl (by decide) rfl ⟨rfl, rfl, rfl, rfl⟩ rfl (k_setL hH6 S6.2.1 (t := t.toInt.toNat) (by omega) (by show t.toInt.toNat < (trL T 225).length; omega) (fun z18 h18 => ⟨_, rfl, ?_⟩))
  have h18 : z18.toInt = ((mN T t.toInt.toNat : Nat) : Int) := h18
  refine xcallC 24 (o := 3) [.int _] [] hH6 ⟨u127, _, rfl⟩ rfl rfl (by decide) rfl (by decide) rfl ⟨rfl, rfl, rfl, rfl⟩ rfl (k_bdrop (o := 3) (Or.inl rfl) hH6 S6.1 (by rw [h18, em]) x1 x2 ez (fun hp21 hH21 F21 B21 => ⟨_, rfl, ?_⟩))
  have B21 : bdOk hp21 3 V (tkT T t.toInt.toNat) := by rw [etk]; exact B21
  refine xald 25 ⟨u127, _, rfl⟩ rfl rfl ?_
  refine xcallC 28 (o := 0) [] [] hH21 ⟨u127, _, rfl⟩ rfl rfl (by decide) rfl (by decide) rfl ⟨rfl, rfl, rfl, rfl⟩ rfl (k_stS hH21 (ty := ty) B21 (fun i hi => (bFx_n F21 (by simp)).trans (S6.2.2.2.1 i hi)) (hyC_fr S6.2.2.2.2 (fun c k c1 c2 => F21 c k (by simp; omega))) (fun hp25 hH25 F25 S25 => ⟨_, rfl, ?_⟩))
  have d25 : rN hp25 3 1 = (((trL (tkT T t.toInt.toNat) 225).length : Nat) : Int) := S25.2.1.1
  refine xald 29 ⟨u127, _, rfl⟩ rfl rfl ?_
  refine xgetD 32 (3) hH25 ⟨u127, _, rfl⟩ rfl (by decide) (by decide) rfl rfl (by decide) ?_
  refine xgetC 35 hH25 ⟨u127, _, rfl⟩ rfl (by decide) (by decide) rfl rfl (by decide) (fun z32 h32 => ?_)
  exact xret ⟨u127, _, rfl⟩ rfl (hR _ hp25 hH25 ((cF_hy F6).trans ((cF_x F21 (by simp)).trans (cF_x F25 (by simp)))) g2 S25 (by omega))
end
/-! ##### 19.m.058.36d ##### -/
section
/-! ===== the reference: a triple removed, all that cover a pair, developed ===== -/
theorem k_273E {d V n : Nat} {h : Nat → sR} {sv : Option sR} {T : sT} {ty : Nat → Int} {hp : amH} {R : xQ} {t : Int32} (hH : bHk 84 bTT hp) (hP : P0 hp) (hS : rfS hp (V, T, ty) n h sv)
    (hR : ∀ (z : Int32) hp1, bHk 84 bTT hp1 → P0 hp1 → bFr wM hp hp1 → rN hp1 66 7 = gTri (trL T 225).length t.toInt → ((¬ gTri (trL T 225).length t.toInt = 0 ∧ rfS hp1 (V, T, ty) n h sv) ∨ (gTri (trL T 225).length t.toInt = 0 ∧ rfS hp1 (V, tkT T t.toInt.toNat, ty) (pM n + 1) (pH n h (V, T, ty)) sv ∧ z.toInt = (((trL (tkT T t.toInt.toNat) 225).length : Nat) : Int))) → R (.inl (some (.int z))) hp1) : xK (d + 3) 273 [.ref 66, .int t] hp R := by
  have hT : sOk V T := hS.1.2.1
  have l35 := trL_35 hT 225
  refine xin (M := am_m273) rfl rfl rfl ?_
  refine xald 1 ⟨u273, _, rfl⟩ rfl rfl ?_
  refine xild 2 ⟨u273, _, rfl⟩ rfl rfl ?_
  refine xcall 5 [.ref 66, .int _] [] hH ⟨u273, _, rfl⟩ rfl rfl rfl rfl rfl (k_gpt hH (V := V) (T := T) (rowOk_rd hS.1) (fun z2 hp2 hH2 F2 B2 L2 t2 o2 => ⟨_, rfl, ?_⟩))
  have S2 := rfS_W hS F2 (fun _ => rfl) rfl rfl (fun _ => rfl) (fun _ => rfl)
  have P2 : P0 hp2 := P0_W (W := (66, 7) :: bLT) (by decide) F2 hP
  refine xif_eq 8 ⟨u273, _, rfl⟩ rfl (fun c5 => ?_) (fun c5 => ?_)
  · have g2 : gTri (trL T 225).length t.toInt = 0 := by omega
    have k2 := gTri_0.mp g2
    obtain ⟨q1, q2, q3⟩ := trL_get 225 t.toInt.toNat (show t.toInt.toNat < (trL T 225).length by omega)
    obtain ⟨z, ez, x1, x2, x3⟩ := tr_pts hT q1
    have etk : tkT T t.toInt.toNat = sTake T ((trL T 225).getD t.toInt.toNat 0 / 15) ((trL T 225).getD t.toInt.toNat 0 % 15) z := by unfold tkT; rw [ez, Int.toNat_natCast]
    have lt := len_take hT ez
    rw [← etk] at lt
    refine xald 11 ⟨u273, _, rfl⟩ rfl rfl ?_
    refine xcall 14 [.ref 66] [] hH2 ⟨u273, _, rfl⟩ rfl rfl rfl rfl rfl (k_rmS hH2 P2 S2 (fun hp11 hH11 P11 F11 S11 => ⟨_, rfl, ?_⟩))
    refine xald 15 ⟨u273, _, rfl⟩ rfl rfl ?_
    refine xald 16 ⟨u273, _, rfl⟩ rfl rfl ?_
    refine xgetR 19 72 hH11 ⟨u273, _, rfl⟩ rfl rfl ?_
    refine xild 20 ⟨u273, _, rfl⟩ rfl rfl ?_
    refine xiald 21 (t).toInt.toNat hH11 ⟨u273, _, rfl⟩ rfl (by decide) rfl (by omega) (by omega) (fun z20 h20 => ?_)
    refine xald 22 ⟨u273, _, rfl⟩ rfl rfl ?_
    refine xgetR 25 73 hH11 ⟨u273, _, rfl⟩ rfl rfl ?_
    refine xild 26 ⟨u273, _, rfl⟩ rfl rfl ?_
    refine xiald 27 (t).toInt.toNat hH11 ⟨u273, _, rfl⟩ rfl (by decide) rfl (by omega) (by omega) (fun z26 h26 => ?_)
    refine xald 28 ⟨u273, _, rfl⟩ rfl rfl ?_
    refine xgetR 31 74 hH11 ⟨u273, _, rfl⟩ rfl rfl ?_
    refine xild 32 ⟨u273, _, rfl⟩ rfl rfl ?_
    refine xiald 33 (t).toInt.toNat hH11 ⟨u273, _, rfl⟩ rfl (by decide) rfl (by omega) (by omega) (fun z32 h32 => ?_)
    have L11 : rlN hp11 T 225 := rlN_fr L2 (r_fr F11 rfl) (fun _ => r_fr F11 rfl) (fun _ => r_fr F11 rfl) (fun _ => r_fr F11 rfl) (fun _ => r_fr F11 rfl)
    obtain ⟨o1, o2, o3, -⟩ := L11.2 t.toInt.toNat (by omega)
    have M11 := L11.1
    rw [ez] at o3
    refine xcall 36 [.ref 66, .int _, .int _, .int _] [] hH11 ⟨u273, _, rfl⟩ rfl rfl rfl rfl rfl (k_tkR hH11 P11 S11.1 (x := (trL T 225).getD t.toInt.toNat 0 / 15) (y := (trL T 225).getD t.toInt.toNat 0 % 15) (z := z) (h20.trans o1) (h26.trans o2) (h32.trans o3) ez (fun hp33 hH33 P33 F33 C33 => ⟨_, rfl, ?_⟩))
    have S33 := rfS_67 S11 F33 C33
    rw [← etk] at S33
    have m33 : rN hp33 66 12 = rN hp11 66 12 := r_fr F33 rfl
    refine xald 37 ⟨u273, _, rfl⟩ rfl rfl ?_
    refine xgetI 40 hH33 ⟨u273, _, rfl⟩ rfl rfl (fun z37 h37 => ?_)
    refine xcst 41 (1) ⟨u273, _, rfl⟩ rfl (by decide) (fun z40 h40 => ?_)
    refine xsub 42 _ ⟨u273, _, rfl⟩ rfl rfl (by omega) (by omega) (fun z41 h41 => ?_)
    exact xret ⟨u273, _, rfl⟩ rfl (hR _ hp33 hH33 P33 (((bFr_sub F2 (by decide)).trans (bFr_sub F11 (by decide))).trans (bFr_sub F33 (by decide))) (by rw [show rN hp33 66 7 = rN hp11 66 7 from r_fr F33 rfl, show rN hp11 66 7 = rN hp2 66 7 from r_fr F11 rfl]; exact t2) (Or.inr ⟨g2, S33, by omega⟩))
  · refine xcst 9 (0) ⟨u273, _, rfl⟩ rfl (by decide) (fun z8 h8 => ?_)
    exact xret ⟨u273, _, rfl⟩ rfl (hR _ hp2 hH2 P2 (bFr_sub F2 (by decide)) t2 (Or.inl ⟨by omega, S2⟩))
/-- a pair's triple taken, if there is one -/
def rmT (T : sT) (x y : Nat) : sT := if T x y = -1 then T else sTake T x y (T x y).toNat
theorem k_277E {d V n x y : Nat} {h : Nat → sR} {sv : Option sR} {T : sT} {ty : Nat → Int} {hp : amH} {R : xQ} {a b : Int32} (hH : bHk 84 bTT hp) (hP : P0 hp) (hS : rfS hp (V, T, ty) n h sv) (ha : a.toInt = (x : Int)) (hb : b.toInt = (y : Int)) (hx : x < V) (hy : y < V)
    (hR : ∀ (z : Int32) hp1, bHk 84 bTT hp1 → P0 hp1 → bFr [(67, 999)] hp hp1 → rfS hp1 (V, rmT T x y, ty) n h sv → z.toInt = cvT T x y → (z.toInt = 0 ∨ z.toInt = 1) → R (.inl (some (.int z))) hp1) : xK (d + 2) 277 [.ref 66, .int a, .int b] hp R := by
  have hT : sOk V T := hS.1.2.1
  have hV := hT.2.1
  refine xin (M := am_m277) rfl rfl rfl ?_
  refine xald 1 ⟨u277, _, rfl⟩ rfl rfl ?_
  refine xild 2 ⟨u277, _, rfl⟩ rfl rfl ?_
  refine xild 3 ⟨u277, _, rfl⟩ rfl rfl ?_
  refine xcall 6 [.ref 66, .int _, .int _] [] hH ⟨u277, _, rfl⟩ rfl rfl rfl rfl rfl (k_third hH (by omega) (by omega) (by omega) (by omega) (fun z3 h3 => ⟨_, rfl, ?_⟩))
  rw [show a.toInt.toNat = x by omega, show b.toInt.toNat = y by omega, (rowOk_rd hS.1).2.2.1 x y (by omega) (by omega)] at h3
  have h3 : z3.toInt = T x y := h3
  refine xist 7 ⟨u277, _, rfl⟩ rfl rfl ?_
  refine xild 8 ⟨u277, _, rfl⟩ rfl rfl ?_
  refine xcst 9 (-1) ⟨u277, _, rfl⟩ rfl (by decide) (fun z8 h8 => ?_)
  refine xcmp_ne 12 ⟨u277, _, rfl⟩ rfl (fun c9 => ?_) (fun c9 => ?_)
  · obtain ⟨w, ew, -⟩ := sOk_at hT (rfl : T x y = _) (by omega)
    refine xald 15 ⟨u277, _, rfl⟩ rfl rfl ?_
    refine xild 16 ⟨u277, _, rfl⟩ rfl rfl ?_
    refine xild 17 ⟨u277, _, rfl⟩ rfl rfl ?_
    refine xild 18 ⟨u277, _, rfl⟩ rfl rfl ?_
    refine xcall 21 [.ref 66, .int _, .int _, .int _] [] hH ⟨u277, _, rfl⟩ rfl rfl rfl rfl rfl (k_tkR hH hP hS.1 (x := x) (y := y) (z := w) ha hb (by omega) ew (fun hp18 hH18 P18 F18 C18 => ⟨_, rfl, ?_⟩))
    have S18 := rfS_67 hS F18 C18
    refine xcst 22 (1) ⟨u277, _, rfl⟩ rfl (by decide) (fun z21 h21 => ?_)
    exact xret ⟨u277, _, rfl⟩ rfl (hR _ hp18 hH18 P18 F18 (by rw [show rmT T x y = sTake T x y w by unfold rmT; rw [if_neg (by omega), ew, Int.toNat_natCast]]; exact S18) (by unfold cvT; rw [if_neg (by omega)]; exact h21) (Or.inr h21))
  · refine xcst 13 (0) ⟨u277, _, rfl⟩ rfl (by decide) (fun z12 h12 => ?_)
    exact xret ⟨u277, _, rfl⟩ rfl (hR _ hp hH hP (bFr.refl _ _) (by rw [show rmT T x y = T by unfold rmT; rw [if_pos (by omega)]]; exact hS) (by unfold cvT; rw [if_pos (by omega)]; exact h12) (Or.inl h12))
end
/-! ##### 19.m.059.36e ##### -/
section
/-! ===== all turns of a triple, on both sides ===== -/
def dCd (V : Nat) (T : sT) (a b c : Int) : Int := if ¬ gSet V a b c = 0 then gSet V a b c else match sDv V a.toNat b.toNat c.toNat V 0 T 0 with
  | none => 3
  | some _ => 0
theorem dCd_1 {V : Nat} {T : sT} {a b c : Int} (h : ¬ gSet V a b c = 0) : dCd V T a b c = gSet V a b c := by unfold dCd; rw [if_pos h]
theorem dCd_2 {V : Nat} {T : sT} {a b c : Int} {q : sT × Nat} (h : gSet V a b c = 0) (h2 : sDv V a.toNat b.toNat c.toNat V 0 T 0 = some q) : dCd V T a b c = 0 := by unfold dCd; rw [if_neg (fun z => z h), h2]
theorem dCd_3 {V : Nat} {T : sT} {a b c : Int} (h : gSet V a b c = 0) (h2 : sDv V a.toNat b.toNat c.toNat V 0 T 0 = none) : dCd V T a b c = 3 := by unfold dCd; rw [if_neg (fun z => z h), h2]
theorem clS_8 {hp hp1 : amH} {q : sR} {n : Nat} {h : Nat → sR} {sv : Option sR} (hS : clS hp q n h sv) (F : ∀ c k, (3 ≤ c ∧ c < 8) ∨ (13 ≤ c ∧ c ≤ 51) → bFld hp1 c k = bFld hp c k) : clS hp1 q n h sv :=
  ⟨bdOk_fr hS.1 (rN_eq (F _ _ (by omega))) (fun _ => rN_eq (F _ _ (by omega))) (fun _ => rN_eq (F _ _ (by omega))), lsN_fr hS.2.1 (rN_eq (F _ _ (by omega))) (fun _ => rN_eq (F _ _ (by omega))) (fun _ => rN_eq (F _ _ (by omega))), qdN_fr hS.2.2.1 (fun c k hc => F c k (by omega)), fun i hi => (rN_eq (F 13 i (by omega))).trans (hS.2.2.2.1 i hi), hyC_fr hS.2.2.2.2 (fun c k c1 c2 => F c k (by omega))⟩
theorem u128 : bUp 0 am_m128.1 = true := by decide +kernel
theorem k_128E {d V n : Nat} {h : Nat → sR} {sv : Option sR} {T : sT} {ty : Nat → Int} {hp : amH} {R : xQ} {a b c : Int32} (hH : bHk 84 bTT hp) (hS : clS hp (V, T, ty) n h sv)
    (hT : ∀ E hp1, bHk 84 bTT hp1 → cF hp hp1 → clS hp1 (V, T, ty) n h sv → ¬ dCd V T a.toInt b.toInt c.toInt = 0 → exE (dCd V T a.toInt b.toInt c.toInt) E → R (.inr E) hp1)
    (hR : ∀ (z : Int32) hp1 q, bHk 84 bTT hp1 → cF hp hp1 → dCd V T a.toInt b.toInt c.toInt = 0 → sDv V a.toInt.toNat b.toInt.toNat c.toInt.toNat V 0 T 0 = some q → clS hp1 (V, q.1, ty) (pM n + 1) (pH n h (V, T, ty)) sv → z.toInt = (q.2 : Int) → R (.inl (some (.int z))) hp1) : xK (d + 6) 128 [.ref 0, .int a, .int b, .int c] hp R := by
  have hB : bdOk hp 3 V T := hS.1
  have hV := hB.2.1.2.1
  refine xin (M := am_m128) rfl rfl rfl ?_
  refine xald 1 ⟨u128, _, rfl⟩ rfl rfl ?_
  refine xild 2 ⟨u128, _, rfl⟩ rfl rfl ?_
  refine xild 3 ⟨u128, _, rfl⟩ rfl rfl ?_
  refine xild 4 ⟨u128, _, rfl⟩ rfl rfl ?_
  refine xcallT 7 (o := 0) [.int _, .int _, .int _] [] hH ⟨u128, _, rfl⟩ rfl rfl (by decide) rfl (by decide) rfl ⟨rfl, rfl, rfl, rfl⟩ rfl (k_rq3 hH hB.1 (fun g4 => Or.inl ⟨_, rfl, ?_⟩) (fun g4 => Or.inr ⟨_, rfl, rfl, hT 1 hp hH cF.refl hS (by rw [dCd_1 (by omega)]; omega) (by rw [dCd_1 (by omega)]; exact Or.inl ⟨g4, rfl⟩)⟩) (fun g4 => Or.inr ⟨_, rfl, rfl, hT 0 hp hH cF.refl hS (by rw [dCd_1 (by omega)]; omega) (by rw [dCd_1 (by omega)]; exact Or.inr (Or.inl ⟨g4, rfl⟩))⟩))
  have k4 := gSet_0.mp g4
  refine xald 8 ⟨u128, _, rfl⟩ rfl rfl ?_
  refine xgetD 11 (8) hH ⟨u128, _, rfl⟩ rfl (by decide) (by decide) rfl rfl (by decide) ?_
  refine xald 12 ⟨u128, _, rfl⟩ rfl rfl ?_
  refine xgetD 15 (3) hH ⟨u128, _, rfl⟩ rfl (by decide) (by decide) rfl rfl (by decide) ?_
  refine xcallC 18 (o := 8) [.ref 3] [] hH ⟨u128, _, rfl⟩ rfl rfl (by decide) rfl (by decide) rfl ⟨rfl, rfl, rfl, rfl⟩ rfl (k_cpB (o := 8) (o2 := 3) (Or.inr rfl) (Or.inl rfl) (by decide) hH hB (fun hp15 hH15 F15 B15 n15 => ⟨_, rfl, ?_⟩))
  refine xald 19 ⟨u128, _, rfl⟩ rfl rfl ?_
  refine xgetD 22 (8) hH15 ⟨u128, _, rfl⟩ rfl (by decide) (by decide) rfl rfl (by decide) ?_
  refine xild 23 ⟨u128, _, rfl⟩ rfl rfl ?_
  refine xild 24 ⟨u128, _, rfl⟩ rfl rfl ?_
  refine xild 25 ⟨u128, _, rfl⟩ rfl rfl ?_
  refine xcallS 28 [.int _, .int _, .int _] [.ref 8] hH15 ⟨u128, _, rfl⟩ rfl rfl rfl rfl rfl (k_three (x := a.toInt.toNat) (y := b.toInt.toNat) (z := c.toInt.toNat) (by omega) (by omega) (by omega) (by omega) (by omega) (by omega) (fun z25 h25 => ⟨_, rfl, ?_⟩))
  refine xcallC 31 (o := 8) [.int _] [] hH15 ⟨u128, _, rfl⟩ rfl rfl (by decide) rfl (by decide) rfl ⟨rfl, rfl, rfl, rfl⟩ rfl (k_pat (o := 8) (Or.inr rfl) hH15 B15 (a := a.toInt.toNat) (b := b.toInt.toNat) (c := c.toInt.toNat) h25 (by omega) (by omega) (by omega) (by omega) (by omega) (by omega) (fun z28 hp28 hH28 F28 V28 => ⟨_, rfl, ?_⟩))
  have S28 : clS hp28 (V, T, ty) n h sv := clS_8 hS (fun c k hc => (F28 c k (by simp; omega)).trans (F15 c k (by simp; omega)))
  have c28 : cF hp hp28 := (cF_x F15 (by simp)).trans (cF_x F28 (by simp))
  refine xist2 33 ⟨u128, _, rfl⟩ rfl rfl ?_
  refine xild2 35 ⟨u128, _, rfl⟩ rfl rfl ?_
  refine xcst 36 (-1) ⟨u128, _, rfl⟩ rfl (by decide) (fun z35 h35 => ?_)
  refine xcmp_ne 39 ⟨u128, _, rfl⟩ rfl (fun c36 => ?_) (fun c36 => ?_)
  · obtain ⟨q, ds⟩ : ∃ q, sDv V a.toInt.toNat b.toInt.toNat c.toInt.toNat V 0 T 0 = some q := by
      cases e : sDv V a.toInt.toNat b.toInt.toNat c.toInt.toNat V 0 T 0 with
      | none => rw [e] at V28; have V28 : Int32.toInt z28 = -1 := V28; omega
      | some q => exact ⟨q, rfl⟩
    rw [ds] at V28
    have V28 : z28.toInt = (q.2 : Int) ∧ bdOk hp28 8 V q.1 := V28
    refine xald 50 ⟨u128, _, rfl⟩ rfl rfl ?_
    refine xcallC 53 (o := 0) [] [] hH28 ⟨u128, _, rfl⟩ rfl rfl (by decide) rfl (by decide) rfl ⟨rfl, rfl, rfl, rfl⟩ rfl (k_cmS hH28 S28 (fun hp50 hH50 F49 S49 => ⟨_, rfl, ?_⟩))
    refine xald 54 ⟨u128, _, rfl⟩ rfl rfl ?_
    refine xgetD 57 (3) hH50 ⟨u128, _, rfl⟩ rfl (by decide) (by decide) rfl rfl (by decide) ?_
    refine xald 58 ⟨u128, _, rfl⟩ rfl rfl ?_
    refine xgetD 61 (8) hH50 ⟨u128, _, rfl⟩ rfl (by decide) (by decide) rfl rfl (by decide) ?_
    refine xcallC 64 (o := 3) [.ref 8] [] hH50 ⟨u128, _, rfl⟩ rfl rfl (by decide) rfl (by decide) rfl ⟨rfl, rfl, rfl, rfl⟩ rfl (k_cpB (o := 3) (o2 := 8) (Or.inl rfl) (Or.inr rfl) (by decide) hH50 (bdOk_fr V28.2 (hyF_n F49 (by omega)) (fun _ => hyF_n F49 (by omega)) (fun _ => hyF_n F49 (by omega))) (fun hp61 hH61 F61 B61 n61 => ⟨_, rfl, ?_⟩))
    refine xald 65 ⟨u128, _, rfl⟩ rfl rfl ?_
    refine xcallC 68 (o := 0) [] [] hH61 ⟨u128, _, rfl⟩ rfl rfl (by decide) rfl (by decide) rfl ⟨rfl, rfl, rfl, rfl⟩ rfl (k_stS hH61 (ty := ty) B61 (fun i hi => (bFx_n F61 (by simp)).trans (S49.2.2.2.1 i hi)) (hyC_fr S49.2.2.2.2 (fun c k c1 c2 => F61 c k (by simp; omega))) (fun hp65 hH65 F65 S65 => ⟨_, rfl, ?_⟩))
    refine xild2 70 ⟨u128, _, rfl⟩ rfl rfl ?_
    exact xret ⟨u128, _, rfl⟩ rfl (hR _ hp65 q hH65 (c28.trans ((cF_hy F49).trans ((cF_x F61 (by simp)).trans (cF_x F65 (by simp))))) (dCd_2 g4 ds) ds S65 V28.1)
  · have dn : sDv V a.toInt.toNat b.toInt.toNat c.toInt.toNat V 0 T 0 = none := by
      cases e : sDv V a.toInt.toNat b.toInt.toNat c.toInt.toNat V 0 T 0 with
      | none => rfl
      | some q => rw [e] at V28; have := V28.1; omega
    exact xthr ⟨u128, _, rfl⟩ (by decide) rfl (by decide) (hT 2 hp28 hH28 c28 S28 (by rw [dCd_3 g4 dn]; decide) (by rw [dCd_3 g4 dn]; exact Or.inr (Or.inr ⟨rfl, rfl⟩)))
end
/-! ##### 19.m.060.36f ##### -/
section
/-! ===== the reference develops ===== -/
theorem k_begE {d : Nat} {q : sR} {n : Nat} {h : Nat → sR} {sv : Option sR} {hp : amH} {R : xQ} (hH : bHk 84 bTT hp) (hP : P0 hp) (hS : rfS hp q n h sv) (hR : ∀ hp1, bHk 84 bTT hp1 → P0 hp1 → bFr [(69, 999)] hp hp1 → rfS hp1 q n h sv → rowOk (rN hp1 69) q → R (.inl none) hp1) : xK (d + 1) 201 [.ref 66] hp R := by
  refine xin (M := am_m201) rfl rfl rfl ?_
  refine xald 1 ⟨u201, _, rfl⟩ rfl rfl ?_
  refine xgetR 4 67 hH ⟨u201, _, rfl⟩ rfl rfl ?_
  refine xcst 5 (0) ⟨u201, _, rfl⟩ rfl (by decide) (fun z4 h4 => ?_)
  refine xald 6 ⟨u201, _, rfl⟩ rfl rfl ?_
  refine xgetR 9 69 hH ⟨u201, _, rfl⟩ rfl rfl ?_
  refine xcst 10 (0) ⟨u201, _, rfl⟩ rfl (by decide) (fun z9 h9 => ?_)
  refine xsip 13 (229) ⟨u201, _, rfl⟩ rfl (by decide) (fun z10 h10 => ?_)
  refine xcallS 16 [.ref 67, .int _, .ref 69, .int _, .int _] [] hH ⟨u201, _, rfl⟩ rfl rfl rfl rfl rfl (k_copy 0 0 229 hH (by decide) (by decide) (by decide) rfl rfl (by omega) (by omega) (by omega) (by omega) (by omega) (by decide) (fun hp13 hH13 F13 E13 => ⟨_, rfl, ?_⟩))
  have r69 : rowOk (rN hp13 69) q := rowOk_eq hS.1 (fun i hi => by rw [E13 i hi, if_pos (by omega), Nat.sub_zero, Nat.zero_add])
  exact xretV ⟨u201, _, rfl⟩ rfl (hR _ hH13 (P0_no hP F13 (fun z => absurd z (by decide)) (fun _ => rowOk_V r69) (fun z => absurd z (by decide)) (by decide) (by decide)) F13 (rfS_W hS F13 (fun _ => rfl) rfl rfl (fun _ => rfl) (fun _ => rfl)) r69)
theorem k_endE {d : Nat} {q q0 : sR} {n : Nat} {h : Nat → sR} {sv : Option sR} {hp : amH} {R : xQ} (hH : bHk 84 bTT hp) (hP : P0 hp) (hS : rfS hp q0 n h sv) (hA : rowOk (rN hp 69) q) (hR : ∀ hp1, bHk 84 bTT hp1 → P0 hp1 → bFr [(67, 999)] hp hp1 → rfS hp1 q n h sv → R (.inl none) hp1) : xK (d + 1) 202 [.ref 66] hp R := by
  refine xin (M := am_m202) rfl rfl rfl ?_
  refine xald 1 ⟨u202, _, rfl⟩ rfl rfl ?_
  refine xgetR 4 69 hH ⟨u202, _, rfl⟩ rfl rfl ?_
  refine xcst 5 (0) ⟨u202, _, rfl⟩ rfl (by decide) (fun z4 h4 => ?_)
  refine xald 6 ⟨u202, _, rfl⟩ rfl rfl ?_
  refine xgetR 9 67 hH ⟨u202, _, rfl⟩ rfl rfl ?_
  refine xcst 10 (0) ⟨u202, _, rfl⟩ rfl (by decide) (fun z9 h9 => ?_)
  refine xsip 13 (229) ⟨u202, _, rfl⟩ rfl (by decide) (fun z10 h10 => ?_)
  refine xcallS 16 [.ref 69, .int _, .ref 67, .int _, .int _] [] hH ⟨u202, _, rfl⟩ rfl rfl rfl rfl rfl (k_copy 0 0 229 hH (by decide) (by decide) (by decide) rfl rfl (by omega) (by omega) (by omega) (by omega) (by omega) (by decide) (fun hp13 hH13 F13 E13 => ⟨_, rfl, ?_⟩))
  have r67 : rowOk (rN hp13 67) q := rowOk_eq hA (fun i hi => by rw [E13 i hi, if_pos (by omega), Nat.sub_zero, Nat.zero_add])
  exact xretV ⟨u202, _, rfl⟩ rfl (hR _ hH13 (P0_67 F13 hP (rowOk_V r67)) F13 (rfS_67 hS F13 r67))
/-- a row that is a system, as one -/
theorem V_rowOk {r : Nat → Int} (h : Vf r) : ∃ q, rowOk r q := by
  obtain ⟨h1, h2, h3⟩ := h
  refine ⟨((r 0).toNat, fun u v => if u < 15 ∧ v < 15 then r (4 + 15 * u + v) else -1, fun i => r (i + 1)), by show r 0 = _; omega, ⟨by show 3 ≤ (r 0).toNat; omega, by show (r 0).toNat ≤ 15; omega, fun a b => ?_⟩, fun u v hu hv => by show _ = (if u < 15 ∧ v < 15 then r (4 + 15 * u + v) else -1); rw [if_pos ⟨hu, hv⟩], fun u v h => by show (if u < 15 ∧ v < 15 then r (4 + 15 * u + v) else -1) = -1; rw [if_neg h], fun i hi => rfl⟩
  show (if a < 15 ∧ b < 15 then r (4 + 15 * a + b) else -1) = -1 ∨ ∃ c : Nat, (if a < 15 ∧ b < 15 then r (4 + 15 * a + b) else -1) = (c : Int) ∧ a < (r 0).toNat ∧ b < (r 0).toNat ∧ c < (r 0).toNat ∧ a ≠ b ∧ a ≠ c ∧ b ≠ c ∧ (if b < 15 ∧ a < 15 then r (4 + 15 * b + a) else -1) = (c : Int) ∧ (if a < 15 ∧ c < 15 then r (4 + 15 * a + c) else -1) = (b : Int)
  by_cases g : a < 15 ∧ b < 15
  · rw [if_pos g]
    rcases h3 a b g.1 g.2 with k | ⟨c, k1, k2, k3, k4, k5, k6, k7, k8, k9⟩
    · exact Or.inl k
    · exact Or.inr ⟨c, k1, by omega, by omega, by omega, k5, k6, k7, by rw [if_pos ⟨g.2, g.1⟩]; exact k8, by rw [if_pos ⟨g.1, by omega⟩]; exact k9⟩
  · rw [if_neg g]
    exact Or.inl rfl
theorem rfS_ex {hp hp1 : amH} {q : sR} {n : Nat} {h : Nat → sR} {sv : Option sR} (hS : rfS hp q n h sv) (F : bFr [(67, 999)] hp hp1) (h1 : Vf (rN hp1 67)) : ∃ q0, rfS hp1 q0 n h sv := by
  obtain ⟨q0, e⟩ := V_rowOk h1
  exact ⟨q0, rfS_67 hS F e⟩
/-- develops, on the state -/
theorem k_dvS {d V n : Nat} {h : Nat → sR} {sv : Option sR} {T : sT} {ty : Nat → Int} {hp : amH} {R : xQ} {a b c : Int32} (hH : bHk 84 bTT hp) (hP : P0 hp) (hS : rfS hp (V, T, ty) n h sv) (g : gSet V a.toInt b.toInt c.toInt = 0)
    (hR : ∀ (r : Int32) hp1, bHk 84 bTT hp1 → P0 hp1 → bFr [(67, 999)] hp hp1 → (∃ q0, rfS hp1 q0 n h sv) → (match sDv V a.toInt.toNat b.toInt.toNat c.toInt.toNat V 0 T 0 with
      | none => r.toInt = -1
      | some q => r.toInt = (q.2 : Int) ∧ rfS hp1 (V, q.1, ty) n h sv) → R (.inl (some (.int r))) hp1) : xK (d + 4) 237 [.ref 66, .int a, .int b, .int c] hp R := by
  have k := gSet_0.mp g
  refine k_rdvs hH hP (rowOk_rd hS.1) (a := a.toInt.toNat) (b := b.toInt.toNat) (c := c.toInt.toNat) (by omega) (by omega) (by omega) (by show _ < V; omega) (by show _ < V; omega) (by show _ < V; omega) (by omega) (by omega) (by omega) (fun r hp1 g1 g2 g3 g4 g5 => hR r hp1 g1 g2 g3 ?_ ?_)
  · obtain ⟨v1, v2, v3⟩ := g2.1
    exact rfS_ex hS g3 ⟨v1, v2, v3⟩
  · have g5 : (match sDv V a.toInt.toNat b.toInt.toNat c.toInt.toNat V 0 T 0 with
      | none => r.toInt = -1
      | some q => r.toInt = (q.2 : Int) ∧ rdOk hp1 V q.1) := g5
    cases e : sDv V a.toInt.toNat b.toInt.toNat c.toInt.toNat V 0 T 0 with
    | none => rw [e] at g5; exact g5
    | some q => rw [e] at g5; exact ⟨g5.1, rfS_67 hS g3 (rd_rowOk g5.2 (fun i hi => (g4 (i + 1) (by omega)).trans (hS.1.2.2.2.2 i hi)))⟩
theorem k_274E {d V n : Nat} {h : Nat → sR} {sv : Option sR} {T : sT} {ty : Nat → Int} {hp : amH} {R : xQ} {a b c : Int32} (hH : bHk 84 bTT hp) (hP : P0 hp) (hS : rfS hp (V, T, ty) n h sv)
    (hR : ∀ (z : Int32) hp1, bHk 84 bTT hp1 → P0 hp1 → bFr wM hp hp1 → rN hp1 66 7 = dCd V T a.toInt b.toInt c.toInt → ((¬ dCd V T a.toInt b.toInt c.toInt = 0 ∧ rfS hp1 (V, T, ty) n h sv) ∨ (∃ q, dCd V T a.toInt b.toInt c.toInt = 0 ∧ sDv V a.toInt.toNat b.toInt.toNat c.toInt.toNat V 0 T 0 = some q ∧ rfS hp1 (V, q.1, ty) (pM n + 1) (pH n h (V, T, ty)) sv ∧ z.toInt = (q.2 : Int))) → R (.inl (some (.int z))) hp1) : xK (d + 5) 274 [.ref 66, .int a, .int b, .int c] hp R := by
  have hV : V ≤ 15 := hS.1.2.1.2.1
  have hV0 : rN hp 67 0 = (V : Int) := hS.1.1
  refine xin (M := am_m274) rfl rfl rfl ?_
  refine xald 1 ⟨u274, _, rfl⟩ rfl rfl ?_
  refine xild 2 ⟨u274, _, rfl⟩ rfl rfl ?_
  refine xild 3 ⟨u274, _, rfl⟩ rfl rfl ?_
  refine xild 4 ⟨u274, _, rfl⟩ rfl rfl ?_
  refine xcall 7 [.ref 66, .int _, .int _, .int _] [] hH ⟨u274, _, rfl⟩ rfl rfl rfl rfl rfl (k_gp3 hH hV0 hV (fun z4 hp4 hH4 F4 t4 o4 => ⟨_, rfl, ?_⟩))
  have S4 := rfS_W hS F4 (fun _ => rfl) rfl rfl (fun _ => rfl) (fun _ => rfl)
  have P4 : P0 hp4 := P0_W (W := [(66, 7)]) (by decide) F4 hP
  refine xif_eq 10 ⟨u274, _, rfl⟩ rfl (fun c7 => ?_) (fun c7 => ?_)
  · have g4 : gSet V a.toInt b.toInt c.toInt = 0 := by omega
    refine xald 13 ⟨u274, _, rfl⟩ rfl rfl ?_
    refine xcall 16 [.ref 66] [] hH4 ⟨u274, _, rfl⟩ rfl rfl rfl rfl rfl (k_begE hH4 P4 S4 (fun hp13 hH13 P13 F13 S13 A13 => ⟨_, rfl, ?_⟩))
    refine xald 17 ⟨u274, _, rfl⟩ rfl rfl ?_
    refine xild 18 ⟨u274, _, rfl⟩ rfl rfl ?_
    refine xild 19 ⟨u274, _, rfl⟩ rfl rfl ?_
    refine xild 20 ⟨u274, _, rfl⟩ rfl rfl ?_
    refine xcall 23 [.ref 66, .int _, .int _, .int _] [] hH13 ⟨u274, _, rfl⟩ rfl rfl rfl rfl rfl (k_dvS hH13 P13 S13 g4 (fun z20 hp20 hH20 P20 F20 X20 V20 => ⟨_, rfl, ?_⟩))
    obtain ⟨q0, S20⟩ := X20
    refine xist2 25 ⟨u274, _, rfl⟩ rfl rfl ?_
    refine xald 26 ⟨u274, _, rfl⟩ rfl rfl ?_
    refine xcall 29 [.ref 66] [] hH20 ⟨u274, _, rfl⟩ rfl rfl rfl rfl rfl (k_endE hH20 P20 S20 (rowOk_eq A13 (fun i _ => r_fr F20 rfl)) (fun hp26 hH26 P26 F26 S26 => ⟨_, rfl, ?_⟩))
    have e7 : rN hp26 66 7 = 0 := by rw [show rN hp26 66 7 = rN hp20 66 7 from r_fr F26 rfl, show rN hp20 66 7 = rN hp13 66 7 from r_fr F20 rfl, show rN hp13 66 7 = rN hp4 66 7 from r_fr F13 rfl, t4, g4]
    have W26 : bFr wM hp hp26 := (((bFr_sub F4 (by decide)).trans (bFr_sub F13 (by decide))).trans (bFr_sub F20 (by decide))).trans (bFr_sub F26 (by decide))
    refine xald 30 ⟨u274, _, rfl⟩ rfl rfl ?_
    refine xild2 32 ⟨u274, _, rfl⟩ rfl rfl ?_
    refine xcst 33 (-1) ⟨u274, _, rfl⟩ rfl (by decide) (fun z32 h32 => ?_)
    refine xcmp_ne 36 ⟨u274, _, rfl⟩ rfl (fun c33 => ?_) (fun c33 => ?_)
    · refine xcst 41 (0) ⟨u274, _, rfl⟩ rfl (by decide) (fun z40 h40 => ?_)
      refine xcst 42 (3) ⟨u274, _, rfl⟩ rfl (by decide) (fun z41 h41 => ?_)
      refine xcall 45 [.ref 66, .int _, .int _] [] hH26 ⟨u274, _, rfl⟩ rfl rfl rfl rfl rfl (k_failsE hH26 (by omega) (fun hp42 hH42 V42 => ⟨_, rfl, ?_⟩))
      refine xif_eq 48 ⟨u274, _, rfl⟩ rfl (fun c45 => ?_) (fun c45 => ?_)
      · obtain ⟨q, ds⟩ : ∃ q, sDv V a.toInt.toNat b.toInt.toNat c.toInt.toNat V 0 T 0 = some q := by
          cases e : sDv V a.toInt.toNat b.toInt.toNat c.toInt.toNat V 0 T 0 with
          | none => rw [e] at V20; have V20 : Int32.toInt z20 = -1 := V20; omega
          | some q => exact ⟨q, rfl⟩
        have hpe : hp26 = hp42 := by
          rcases V42 with ⟨q1, e⟩ | ⟨q1, -⟩
          · exact e.symm
          · omega
        subst hpe
        refine xald 51 ⟨u274, _, rfl⟩ rfl rfl ?_
        refine xcall 54 [.ref 66] [] hH42 ⟨u274, _, rfl⟩ rfl rfl rfl rfl rfl (k_rmS hH42 P26 S26 (fun hp51 hH51 P51 F51 S51 => ⟨_, rfl, ?_⟩))
        refine xald 55 ⟨u274, _, rfl⟩ rfl rfl ?_
        refine xild 56 ⟨u274, _, rfl⟩ rfl rfl ?_
        refine xild 57 ⟨u274, _, rfl⟩ rfl rfl ?_
        refine xild 58 ⟨u274, _, rfl⟩ rfl rfl ?_
        refine xcall 61 [.ref 66, .int _, .int _, .int _] [] hH51 ⟨u274, _, rfl⟩ rfl rfl rfl rfl rfl (k_dvS hH51 P51 S51 g4 (fun z58 hp58 hH58 P58 F58 X58 V58 => ⟨_, rfl, ?_⟩))
        rw [ds] at V58
        have V58 : z58.toInt = (q.2 : Int) ∧ rfS hp58 (V, q.1, ty) (pM n + 1) (pH n h (V, T, ty)) sv := V58
        exact xret ⟨u274, _, rfl⟩ rfl (hR _ hp58 hH58 P58 ((W26.trans (bFr_sub F51 (by decide))).trans (bFr_sub F58 (by decide))) (by rw [dCd_2 g4 ds, show rN hp58 66 7 = rN hp51 66 7 from r_fr F58 rfl, show rN hp51 66 7 = rN hp26 66 7 from r_fr F51 rfl]; exact e7) (Or.inr ⟨q, dCd_2 g4 ds, ds, V58.2, V58.1⟩))
      · rcases V42 with ⟨q1, -⟩ | ⟨q1, -⟩ <;> omega
    · refine xcst 37 (1) ⟨u274, _, rfl⟩ rfl (by decide) (fun z36 h36 => ?_)
      refine xgoto ⟨u274, _, rfl⟩ ?_
      refine xcst 42 (3) ⟨u274, _, rfl⟩ rfl (by decide) (fun z41 h41 => ?_)
      refine xcall 45 [.ref 66, .int _, .int _] [] hH26 ⟨u274, _, rfl⟩ rfl rfl rfl rfl rfl (k_failsE hH26 (by omega) (fun hp42 hH42 V42 => ⟨_, rfl, ?_⟩))
      refine xif_eq 48 ⟨u274, _, rfl⟩ rfl (fun c45 => ?_) (fun c45 => ?_)
      · rcases V42 with ⟨q1, -⟩ | ⟨q1, -⟩ <;> omega
      · refine xcst 49 (0) ⟨u274, _, rfl⟩ rfl (by decide) (fun z48 h48 => ?_)
        have dn : sDv V a.toInt.toNat b.toInt.toNat c.toInt.toNat V 0 T 0 = none := by
          cases e : sDv V a.toInt.toNat b.toInt.toNat c.toInt.toNat V 0 T 0 with
          | none => rfl
          | some q => rw [e] at V20; have := V20.1; omega
        rcases V42 with ⟨q1, -⟩ | ⟨q1, U⟩
        · omega
        · exact xret ⟨u274, _, rfl⟩ rfl (hR _ hp42 hH42 (P0_W (W := [(66, 7)]) (by decide) (rU_fr U rfl) P26) (W26.trans (rU_fr U (by decide))) (by rw [U.1, dCd_3 g4 dn]; exact h41) (Or.inl ⟨by rw [dCd_3 g4 dn]; decide, rfS_W (W := [(66, 7)]) S26 (rU_fr U rfl) (fun _ => rfl) rfl rfl (fun _ => rfl) (fun _ => rfl)⟩))
  · refine xcst 11 (0) ⟨u274, _, rfl⟩ rfl (by decide) (fun z10 h10 => ?_)
    exact xret ⟨u274, _, rfl⟩ rfl (hR _ hp4 hH4 P4 (bFr_sub F4 (by decide)) (by rw [t4, dCd_1 (by omega)]) (Or.inl ⟨by rw [dCd_1 (by omega)]; omega, S4⟩))
end
/-! ##### 19.m.061.36g ##### -/
section
/-! ===== filling, on both sides ===== -/
/-- the number n stands for a triple of points -/
abbrev fu3 (V n : Nat) : Prop := n / 225 < n / 15 % 15 ∧ n / 15 % 15 < n % 15 ∧ n % 15 < V
/-- all triples numbered below n put that fit: what comes, how many -/
def fuS (V : Nat) (T : sT) : Nat → sT × Nat
  | 0 => (T, 0)
  | n + 1 => if fu3 V n ∧ sFree (fuS V T n).1 (n / 225) (n / 15 % 15) (n % 15) then (sPut (fuS V T n).1 (n / 225) (n / 15 % 15) (n % 15), (fuS V T n).2 + 1) else fuS V T n
theorem fuS_no {V n n1 : Nat} {T : sT} (h : n ≤ n1) (hn : ∀ k, n ≤ k → k < n1 → k / 15 / 15 = k / 225 → ¬ fu3 V k) : fuS V T n1 = fuS V T n := by
  induction n1 with
  | zero => rw [show n = 0 by omega]
  | succ m ih =>
    by_cases e : n = m + 1
    · rw [e]
    · have : fuS V T (m + 1) = fuS V T m := by
        show (if _ then _ else _) = _
        rw [if_neg (fun z => hn m (by omega) (by omega) (by rw [Nat.div_div_eq_div_mul]) z.1)]
      rw [this]
      exact ih (by omega) (fun k k1 k2 => hn k k1 (by omega))
theorem fuS_le (V : Nat) (T : sT) : ∀ n, (fuS V T n).2 ≤ n
  | 0 => Nat.le_refl _
  | n + 1 => by
    have := fuS_le V T n
    show (if fu3 V n ∧ sFree (fuS V T n).1 (n / 225) (n / 15 % 15) (n % 15) then (sPut (fuS V T n).1 (n / 225) (n / 15 % 15) (n % 15), (fuS V T n).2 + 1) else fuS V T n).2 ≤ n + 1
    split
    · exact Nat.succ_le_succ this
    · omega
theorem fuS_at {V x y z : Nat} {T : sT} (hV : V ≤ 15) (h1 : x < y) (h2 : y < z) (h3 : z < V) : (sFree (fuS V T (225 * x + 15 * y + z)).1 x y z → fuS V T (225 * x + 15 * y + z + 1) = (sPut (fuS V T (225 * x + 15 * y + z)).1 x y z, (fuS V T (225 * x + 15 * y + z)).2 + 1)) ∧ (¬ sFree (fuS V T (225 * x + 15 * y + z)).1 x y z → fuS V T (225 * x + 15 * y + z + 1) = fuS V T (225 * x + 15 * y + z)) := by
  have e1 : (225 * x + 15 * y + z) / 225 = x := by omega
  have e2 : (225 * x + 15 * y + z) / 15 % 15 = y := by omega
  have e3 : (225 * x + 15 * y + z) % 15 = z := by omega
  constructor
  · intro h
    show (if _ then _ else _) = _
    rw [if_pos ⟨⟨by omega, by omega, by omega⟩, by rw [e1, e2, e3]; exact h⟩, e1, e2, e3]
  · intro h
    show (if _ then _ else _) = _
    rw [if_neg (fun w => h (by have w2 := w.2; rw [e1, e2, e3] at w2; exact w2))]
theorem u22 : bUp 0 am_m22.1 = true := by decide +kernel
theorem u129 : bUp 0 am_m129.1 = true := by decide +kernel
theorem l22z {d V : Nat} {T : sT} {hp0 : amH} {R : xQ} (hV15 : V ≤ 15) {x y : Nat} {wx wy : Int32} (hwx : wx.toInt = (x : Int)) (hwy : wy.toInt = (y : Int)) (hxy : x < y) (hyV : y < V)
    (hQ : ∀ hp (w : Int32) (v4 : Option Value), bHk 84 bTT hp → bFx [4, 6] hp0 hp → (bdOk hp 3 V (fuS V T (225 * x + 15 * (y + 1))).1) → w.toInt = (((fuS V T (225 * x + 15 * (y + 1))).2 : Nat) : Int) → xV (d + 3) am_m22 72 [some (.ref 3), some (.int w), some (.int wx), some (.int wy), v4] [] hp R) :
    ∀ (jj z : Nat) (wz : Int32) (hp : amH) (w : Int32), wz.toInt = (z : Int) → y < z → z + jj = V → bHk 84 bTT hp → bFx [4, 6] hp0 hp → (bdOk hp 3 V (fuS V T (225 * x + 15 * y + z)).1) → w.toInt = (((fuS V T (225 * x + 15 * y + z)).2 : Nat) : Int) → xV (d + 3) am_m22 29 [some (.ref 3), some (.int w), some (.int wx), some (.int wy), some (.int wz)] [] hp R := by
  intro jj
  induction jj with
  | zero =>
    intro z wz hp w hwz hyz hj hH hF hB hw
    have bV := hB.1
    refine xild2 31 ⟨u22, _, rfl⟩ rfl rfl ?_
    refine xald 32 ⟨u22, _, rfl⟩ rfl rfl ?_
    refine xgetC 35 hH ⟨u22, _, rfl⟩ rfl (by decide) (by decide) rfl rfl (by decide) (fun z32 h32 => ?_)
    refine xcmp_ge 38 ⟨u22, _, rfl⟩ rfl (fun c35 => ?_) (fun c35 => ?_)
    · exact hQ hp _ _ hH hF (by rw [fuS_no (T := T) (V := V) (n := 225 * x + 15 * y + z) (n1 := 225 * x + 15 * (y + 1)) (by omega) (fun k k1 k2 k3 => by omega)]; exact hB) (by rw [fuS_no (T := T) (V := V) (n := 225 * x + 15 * y + z) (n1 := 225 * x + 15 * (y + 1)) (by omega) (fun k k1 k2 k3 => by omega)]; exact hw)
    · omega
  | succ jj ih =>
    intro z wz hp w hwz hyz hj hH hF hB hw
    have bV := hB.1
    obtain ⟨f1, f2⟩ := fuS_at (T := T) hV15 hxy hyz (show z < V by omega)
    have cl := fuS_le V T (225 * x + 15 * y + z)
    refine xild2 31 ⟨u22, _, rfl⟩ rfl rfl ?_
    refine xald 32 ⟨u22, _, rfl⟩ rfl rfl ?_
    refine xgetC 35 hH ⟨u22, _, rfl⟩ rfl (by decide) (by decide) rfl rfl (by decide) (fun z32 h32 => ?_)
    refine xcmp_ge 38 ⟨u22, _, rfl⟩ rfl (fun c35 => ?_) (fun c35 => ?_)
    · omega
    · refine xald 39 ⟨u22, _, rfl⟩ rfl rfl ?_
      refine xild 40 ⟨u22, _, rfl⟩ rfl rfl ?_
      refine xild 41 ⟨u22, _, rfl⟩ rfl rfl ?_
      refine xild2 43 ⟨u22, _, rfl⟩ rfl rfl ?_
      refine xcallS 46 [.int _, .int _, .int _] [.ref 3] hH ⟨u22, _, rfl⟩ rfl rfl rfl rfl rfl (k_three (x := x) (y := y) (z := z) (by omega) (by omega) (by omega) (by omega) (by omega) (by omega) (fun z43 h43 => ⟨_, rfl, ?_⟩))
      refine xcallC 49 (o := 3) [.int _] [] hH ⟨u22, _, rfl⟩ rfl rfl (by decide) rfl (by decide) rfl ⟨rfl, rfl, rfl, rfl⟩ rfl (k_tak (o := 3) (Or.inl rfl) hH hB (x := x) (y := y) (z := z) h43 hxy hyz (by omega) (fun z46 h46 => ⟨_, rfl, ?_⟩))
      refine xif_eq 52 ⟨u22, _, rfl⟩ rfl (fun c49 => ?_) (fun c49 => ?_)
      · refine xinc 69 (1) ⟨u22, _, rfl⟩ rfl rfl rfl (by decide) (by omega) (by omega) (fun z66 h66 => ?_)
        refine xgoto ⟨u22, _, rfl⟩ ?_
        have nf : ¬ sFree (fuS V T (225 * x + 15 * y + z)).1 x y z := by omega
        exact ih (z + 1) _ hp _ (by omega) (by omega) (by omega) hH hF (by rw [show 225 * x + 15 * y + (z + 1) = 225 * x + 15 * y + z + 1 by omega, f2 nf]; exact hB) (by rw [show 225 * x + 15 * y + (z + 1) = 225 * x + 15 * y + z + 1 by omega, f2 nf]; exact hw)
      · refine xald 53 ⟨u22, _, rfl⟩ rfl rfl ?_
        refine xild 54 ⟨u22, _, rfl⟩ rfl rfl ?_
        refine xild 55 ⟨u22, _, rfl⟩ rfl rfl ?_
        refine xild2 57 ⟨u22, _, rfl⟩ rfl rfl ?_
        refine xcallS 60 [.int _, .int _, .int _] [.ref 3] hH ⟨u22, _, rfl⟩ rfl rfl rfl rfl rfl (k_three (x := x) (y := y) (z := z) (by omega) (by omega) (by omega) (by omega) (by omega) (by omega) (fun z57 h57 => ⟨_, rfl, ?_⟩))
        refine xcallC 63 (o := 3) [.int _] [] hH ⟨u22, _, rfl⟩ rfl rfl (by decide) rfl (by decide) rfl ⟨rfl, rfl, rfl, rfl⟩ rfl (k_bput (o := 3) (Or.inl rfl) hH hB (x := x) (y := y) (z := z) h57 hxy hyz (by omega) (by omega) (fun hp60 hH60 F60 B60 => ⟨_, rfl, ?_⟩))
        refine xinc 66 (1) ⟨u22, _, rfl⟩ rfl rfl rfl (by decide) (by omega) (by omega) (fun z63 h63 => ?_)
        refine xinc 69 (1) ⟨u22, _, rfl⟩ rfl rfl rfl (by decide) (by omega) (by omega) (fun z66 h66 => ?_)
        refine xgoto ⟨u22, _, rfl⟩ ?_
        have fr : sFree (fuS V T (225 * x + 15 * y + z)).1 x y z := by omega
        exact ih (z + 1) _ hp60 _ (by omega) (by omega) (by omega) hH60 (hF.trans (F60.mono (by simp))) (by rw [show 225 * x + 15 * y + (z + 1) = 225 * x + 15 * y + z + 1 by omega, f1 fr]; exact B60) (by rw [show 225 * x + 15 * y + (z + 1) = 225 * x + 15 * y + z + 1 by omega, f1 fr]; show _ = (((fuS V T (225 * x + 15 * y + z)).2 + 1 : Nat) : Int); omega)
theorem l22y {d V : Nat} {T : sT} {hp0 : amH} {R : xQ} (hV15 : V ≤ 15) {x : Nat} {wx : Int32} (hwx : wx.toInt = (x : Int)) (hxV : x < V)
    (hQ : ∀ hp (w : Int32) (v3 v4 : Option Value), bHk 84 bTT hp → bFx [4, 6] hp0 hp → (bdOk hp 3 V (fuS V T (225 * (x + 1))).1) → w.toInt = (((fuS V T (225 * (x + 1))).2 : Nat) : Int) → xV (d + 3) am_m22 78 [some (.ref 3), some (.int w), some (.int wx), v3, v4] [] hp R) :
    ∀ (jj y : Nat) (wy : Int32) (hp : amH) (w : Int32) (v4 : Option Value), wy.toInt = (y : Int) → x < y → y + jj = V → bHk 84 bTT hp → bFx [4, 6] hp0 hp → (bdOk hp 3 V (fuS V T (225 * x + 15 * y)).1) → w.toInt = (((fuS V T (225 * x + 15 * y)).2 : Nat) : Int) → xV (d + 3) am_m22 16 [some (.ref 3), some (.int w), some (.int wx), some (.int wy), v4] [] hp R := by
  intro jj
  induction jj with
  | zero =>
    intro y wy hp w v4 hwy hxy hj hH hF hB hw
    have bV := hB.1
    refine xild 17 ⟨u22, _, rfl⟩ rfl rfl ?_
    refine xald 18 ⟨u22, _, rfl⟩ rfl rfl ?_
    refine xgetC 21 hH ⟨u22, _, rfl⟩ rfl (by decide) (by decide) rfl rfl (by decide) (fun z18 h18 => ?_)
    refine xcmp_ge 24 ⟨u22, _, rfl⟩ rfl (fun c21 => ?_) (fun c21 => ?_)
    · exact hQ hp _ _ _ hH hF (by rw [fuS_no (T := T) (V := V) (n := 225 * x + 15 * y) (n1 := 225 * (x + 1)) (by omega) (fun k k1 k2 k3 => by omega)]; exact hB) (by rw [fuS_no (T := T) (V := V) (n := 225 * x + 15 * y) (n1 := 225 * (x + 1)) (by omega) (fun k k1 k2 k3 => by omega)]; exact hw)
    · omega
  | succ jj ih =>
    intro y wy hp w v4 hwy hxy hj hH hF hB hw
    have bV := hB.1
    refine xild 17 ⟨u22, _, rfl⟩ rfl rfl ?_
    refine xald 18 ⟨u22, _, rfl⟩ rfl rfl ?_
    refine xgetC 21 hH ⟨u22, _, rfl⟩ rfl (by decide) (by decide) rfl rfl (by decide) (fun z18 h18 => ?_)
    refine xcmp_ge 24 ⟨u22, _, rfl⟩ rfl (fun c21 => ?_) (fun c21 => ?_)
    · omega
    · refine xild 25 ⟨u22, _, rfl⟩ rfl rfl ?_
      refine xcst 26 (1) ⟨u22, _, rfl⟩ rfl (by decide) (fun z25 h25 => ?_)
      refine xadd 27 _ ⟨u22, _, rfl⟩ rfl rfl (by omega) (by omega) (fun z26 h26 => ?_)
      refine xist2 29 ⟨u22, _, rfl⟩ rfl rfl ?_
      refine l22z hV15 hwx hwy hxy (by omega) (fun hp1 w1 v41 k1 k2 k3 k4 => ?_) (V - (y + 1)) (y + 1) _ hp _ (by omega) (by omega) (by omega) hH hF (by rw [fuS_no (T := T) (V := V) (n := 225 * x + 15 * y) (n1 := 225 * x + 15 * y + (y + 1)) (by omega) (fun k k1 k2 k3 => by omega)]; exact hB) (by rw [fuS_no (T := T) (V := V) (n := 225 * x + 15 * y) (n1 := 225 * x + 15 * y + (y + 1)) (by omega) (fun k k1 k2 k3 => by omega)]; exact hw)
      refine xinc 75 (1) ⟨u22, _, rfl⟩ rfl rfl rfl (by decide) (by omega) (by omega) (fun z72 h72 => ?_)
      refine xgoto ⟨u22, _, rfl⟩ ?_
      exact ih (y + 1) _ hp1 _ _ (by omega) (by omega) (by omega) k1 k2 k3 k4
theorem l22x {d V : Nat} {T : sT} {hp0 : amH} {R : xQ} (hV15 : V ≤ 15) (hR : ∀ (w : Int32) hp, bHk 84 bTT hp → bFx [4, 6] hp0 hp → (bdOk hp 3 V (fuS V T (3375)).1) → w.toInt = (((fuS V T (3375)).2 : Nat) : Int) → R (.inl (some (.int w))) hp) :
    ∀ (jj x : Nat) (wx : Int32) (hp : amH) (w : Int32) (v3 v4 : Option Value), wx.toInt = (x : Int) → x + jj = V → bHk 84 bTT hp → bFx [4, 6] hp0 hp → (bdOk hp 3 V (fuS V T (225 * x)).1) → w.toInt = (((fuS V T (225 * x)).2 : Nat) : Int) → xV (d + 3) am_m22 4 [some (.ref 3), some (.int w), some (.int wx), v3, v4] [] hp R := by
  intro jj
  induction jj with
  | zero =>
    intro x wx hp w v3 v4 hwx hj hH hF hB hw
    have bV := hB.1
    refine xild 5 ⟨u22, _, rfl⟩ rfl rfl ?_
    refine xald 6 ⟨u22, _, rfl⟩ rfl rfl ?_
    refine xgetC 9 hH ⟨u22, _, rfl⟩ rfl (by decide) (by decide) rfl rfl (by decide) (fun z6 h6 => ?_)
    refine xcmp_ge 12 ⟨u22, _, rfl⟩ rfl (fun c9 => ?_) (fun c9 => ?_)
    · refine xild 85 ⟨u22, _, rfl⟩ rfl rfl ?_
      exact xret ⟨u22, _, rfl⟩ rfl (hR _ hp hH hF (by rw [fuS_no (T := T) (V := V) (n := 225 * x) (n1 := 3375) (by omega) (fun k k1 k2 k3 => by omega)]; exact hB) (by rw [fuS_no (T := T) (V := V) (n := 225 * x) (n1 := 3375) (by omega) (fun k k1 k2 k3 => by omega)]; exact hw))
    · omega
  | succ jj ih =>
    intro x wx hp w v3 v4 hwx hj hH hF hB hw
    have bV := hB.1
    refine xild 5 ⟨u22, _, rfl⟩ rfl rfl ?_
    refine xald 6 ⟨u22, _, rfl⟩ rfl rfl ?_
    refine xgetC 9 hH ⟨u22, _, rfl⟩ rfl (by decide) (by decide) rfl rfl (by decide) (fun z6 h6 => ?_)
    refine xcmp_ge 12 ⟨u22, _, rfl⟩ rfl (fun c9 => ?_) (fun c9 => ?_)
    · omega
    · refine xild 13 ⟨u22, _, rfl⟩ rfl rfl ?_
      refine xcst 14 (1) ⟨u22, _, rfl⟩ rfl (by decide) (fun z13 h13 => ?_)
      refine xadd 15 _ ⟨u22, _, rfl⟩ rfl rfl (by omega) (by omega) (fun z14 h14 => ?_)
      refine xist 16 ⟨u22, _, rfl⟩ rfl rfl ?_
      refine l22y hV15 hwx (by omega) (fun hp1 w1 v31 v41 k1 k2 k3 k4 => ?_) (V - (x + 1)) (x + 1) _ hp _ _ (by omega) (by omega) (by omega) hH hF (by rw [fuS_no (T := T) (V := V) (n := 225 * x) (n1 := 225 * x + 15 * (x + 1)) (by omega) (fun k k1 k2 k3 => by omega)]; exact hB) (by rw [fuS_no (T := T) (V := V) (n := 225 * x) (n1 := 225 * x + 15 * (x + 1)) (by omega) (fun k k1 k2 k3 => by omega)]; exact hw)
      refine xinc 81 (1) ⟨u22, _, rfl⟩ rfl rfl rfl (by decide) (by omega) (by omega) (fun z78 h78 => ?_)
      refine xgoto ⟨u22, _, rfl⟩ ?_
      exact ih (x + 1) _ hp1 _ _ _ (by omega) (by omega) k1 k2 k3 k4
theorem l275z {d V n : Nat} {T : sT} {ty : Nat → Int} {h : Nat → sR} {sv : Option sR} {hp0 : amH} {R : xQ} (hV15 : V ≤ 15) {x y : Nat} {wx wy : Int32} (hwx : wx.toInt = (x : Int)) (hwy : wy.toInt = (y : Int)) (hxy : x < y) (hyV : y < V)
    (hQ : ∀ hp (w : Int32) (v4 : Option Value), bHk 84 bTT hp → bFr [(67, 999)] hp0 hp → (P0 hp ∧ rfS hp (V, (fuS V T (225 * x + 15 * (y + 1))).1, ty) n h sv) → w.toInt = (((fuS V T (225 * x + 15 * (y + 1))).2 : Nat) : Int) → xV (d + 4) am_m275 78 [some (.ref 66), some (.int w), some (.int wx), some (.int wy), v4] [] hp R) :
    ∀ (jj z : Nat) (wz : Int32) (hp : amH) (w : Int32), wz.toInt = (z : Int) → y < z → z + jj = V → bHk 84 bTT hp → bFr [(67, 999)] hp0 hp → (P0 hp ∧ rfS hp (V, (fuS V T (225 * x + 15 * y + z)).1, ty) n h sv) → w.toInt = (((fuS V T (225 * x + 15 * y + z)).2 : Nat) : Int) → xV (d + 4) am_m275 38 [some (.ref 66), some (.int w), some (.int wx), some (.int wy), some (.int wz)] [] hp R := by
  intro jj
  induction jj with
  | zero =>
    intro z wz hp w hwz hyz hj hH hF hB hw
    have bV := hB.2.1.1
    refine xild2 40 ⟨u275, _, rfl⟩ rfl rfl ?_
    refine xald 41 ⟨u275, _, rfl⟩ rfl rfl ?_
    refine xcall 44 [.ref 66] [.int _] hH ⟨u275, _, rfl⟩ rfl rfl rfl rfl rfl (k_points hH (fun z41 h41 => ⟨_, rfl, ?_⟩))
    refine xcmp_ge 47 ⟨u275, _, rfl⟩ rfl (fun c44 => ?_) (fun c44 => ?_)
    · exact hQ hp _ _ hH hF (by rw [fuS_no (T := T) (V := V) (n := 225 * x + 15 * y + z) (n1 := 225 * x + 15 * (y + 1)) (by omega) (fun k k1 k2 k3 => by omega)]; exact hB) (by rw [fuS_no (T := T) (V := V) (n := 225 * x + 15 * y + z) (n1 := 225 * x + 15 * (y + 1)) (by omega) (fun k k1 k2 k3 => by omega)]; exact hw)
    · omega
  | succ jj ih =>
    intro z wz hp w hwz hyz hj hH hF hB hw
    have bV := hB.2.1.1
    obtain ⟨f1, f2⟩ := fuS_at (T := T) hV15 hxy hyz (show z < V by omega)
    have cl := fuS_le V T (225 * x + 15 * y + z)
    refine xild2 40 ⟨u275, _, rfl⟩ rfl rfl ?_
    refine xald 41 ⟨u275, _, rfl⟩ rfl rfl ?_
    refine xcall 44 [.ref 66] [.int _] hH ⟨u275, _, rfl⟩ rfl rfl rfl rfl rfl (k_points hH (fun z41 h41 => ⟨_, rfl, ?_⟩))
    refine xcmp_ge 47 ⟨u275, _, rfl⟩ rfl (fun c44 => ?_) (fun c44 => ?_)
    · omega
    · refine xald 48 ⟨u275, _, rfl⟩ rfl rfl ?_
      refine xild 49 ⟨u275, _, rfl⟩ rfl rfl ?_
      refine xild 50 ⟨u275, _, rfl⟩ rfl rfl ?_
      refine xild2 52 ⟨u275, _, rfl⟩ rfl rfl ?_
      refine xcall 55 [.ref 66, .int _, .int _, .int _] [] hH ⟨u275, _, rfl⟩ rfl rfl rfl rfl rfl (k_rfree hH (rowOk_rd hB.2.1) (x := x) (y := y) (z := z) hwx hwy hwz (by show x < V; omega) (by show y < V; omega) (by show z < V; omega) (fun z52 h52 => ⟨_, rfl, ?_⟩))
      have h52 : (z52.toInt = 1 ∧ sFree (fuS V T (225 * x + 15 * y + z)).1 x y z) ∨ (z52.toInt = 0 ∧ ¬ sFree (fuS V T (225 * x + 15 * y + z)).1 x y z) := h52
      refine xif_ne 58 ⟨u275, _, rfl⟩ rfl (fun c55 => ?_) (fun c55 => ?_)
      · refine xald 62 ⟨u275, _, rfl⟩ rfl rfl ?_
        refine xild 63 ⟨u275, _, rfl⟩ rfl rfl ?_
        refine xild 64 ⟨u275, _, rfl⟩ rfl rfl ?_
        refine xild2 66 ⟨u275, _, rfl⟩ rfl rfl ?_
        refine xcall 69 [.ref 66, .int _, .int _, .int _] [] hH ⟨u275, _, rfl⟩ rfl rfl rfl rfl rfl (k_ptR hH hB.1 hB.2.1 (x := x) (y := y) (z := z) hwx hwy hwz (by omega) (by omega) (by omega) (by omega) (by omega) (by omega) (by omega) (fun hp66 hH66 P66 F66 C66 => ⟨_, rfl, ?_⟩))
        have S66 := rfS_67 hB.2 F66 C66
        refine xinc 72 (1) ⟨u275, _, rfl⟩ rfl rfl rfl (by decide) (by omega) (by omega) (fun z69 h69 => ?_)
        refine xinc 75 (1) ⟨u275, _, rfl⟩ rfl rfl rfl (by decide) (by omega) (by omega) (fun z72 h72 => ?_)
        refine xgoto ⟨u275, _, rfl⟩ ?_
        have fr : sFree (fuS V T (225 * x + 15 * y + z)).1 x y z := by omega
        exact ih (z + 1) _ hp66 _ (by omega) (by omega) (by omega) hH66 (hF.trans F66) ⟨P66, by rw [show 225 * x + 15 * y + (z + 1) = 225 * x + 15 * y + z + 1 by omega, f1 fr]; exact S66⟩ (by rw [show 225 * x + 15 * y + (z + 1) = 225 * x + 15 * y + z + 1 by omega, f1 fr]; show _ = (((fuS V T (225 * x + 15 * y + z)).2 + 1 : Nat) : Int); omega)
      · refine xgoto ⟨u275, _, rfl⟩ ?_
        refine xinc 75 (1) ⟨u275, _, rfl⟩ rfl rfl rfl (by decide) (by omega) (by omega) (fun z72 h72 => ?_)
        refine xgoto ⟨u275, _, rfl⟩ ?_
        have nf : ¬ sFree (fuS V T (225 * x + 15 * y + z)).1 x y z := by omega
        exact ih (z + 1) _ hp _ (by omega) (by omega) (by omega) hH hF (by rw [show 225 * x + 15 * y + (z + 1) = 225 * x + 15 * y + z + 1 by omega, f2 nf]; exact hB) (by rw [show 225 * x + 15 * y + (z + 1) = 225 * x + 15 * y + z + 1 by omega, f2 nf]; exact hw)
theorem l275y {d V n : Nat} {T : sT} {ty : Nat → Int} {h : Nat → sR} {sv : Option sR} {hp0 : amH} {R : xQ} (hV15 : V ≤ 15) {x : Nat} {wx : Int32} (hwx : wx.toInt = (x : Int)) (hxV : x < V)
    (hQ : ∀ hp (w : Int32) (v3 v4 : Option Value), bHk 84 bTT hp → bFr [(67, 999)] hp0 hp → (P0 hp ∧ rfS hp (V, (fuS V T (225 * (x + 1))).1, ty) n h sv) → w.toInt = (((fuS V T (225 * (x + 1))).2 : Nat) : Int) → xV (d + 4) am_m275 84 [some (.ref 66), some (.int w), some (.int wx), v3, v4] [] hp R) :
    ∀ (jj y : Nat) (wy : Int32) (hp : amH) (w : Int32) (v4 : Option Value), wy.toInt = (y : Int) → x < y → y + jj = V → bHk 84 bTT hp → bFr [(67, 999)] hp0 hp → (P0 hp ∧ rfS hp (V, (fuS V T (225 * x + 15 * y)).1, ty) n h sv) → w.toInt = (((fuS V T (225 * x + 15 * y)).2 : Nat) : Int) → xV (d + 4) am_m275 25 [some (.ref 66), some (.int w), some (.int wx), some (.int wy), v4] [] hp R := by
  intro jj
  induction jj with
  | zero =>
    intro y wy hp w v4 hwy hxy hj hH hF hB hw
    have bV := hB.2.1.1
    refine xild 26 ⟨u275, _, rfl⟩ rfl rfl ?_
    refine xald 27 ⟨u275, _, rfl⟩ rfl rfl ?_
    refine xcall 30 [.ref 66] [.int _] hH ⟨u275, _, rfl⟩ rfl rfl rfl rfl rfl (k_points hH (fun z27 h27 => ⟨_, rfl, ?_⟩))
    refine xcmp_ge 33 ⟨u275, _, rfl⟩ rfl (fun c30 => ?_) (fun c30 => ?_)
    · exact hQ hp _ _ _ hH hF (by rw [fuS_no (T := T) (V := V) (n := 225 * x + 15 * y) (n1 := 225 * (x + 1)) (by omega) (fun k k1 k2 k3 => by omega)]; exact hB) (by rw [fuS_no (T := T) (V := V) (n := 225 * x + 15 * y) (n1 := 225 * (x + 1)) (by omega) (fun k k1 k2 k3 => by omega)]; exact hw)
    · omega
  | succ jj ih =>
    intro y wy hp w v4 hwy hxy hj hH hF hB hw
    have bV := hB.2.1.1
    refine xild 26 ⟨u275, _, rfl⟩ rfl rfl ?_
    refine xald 27 ⟨u275, _, rfl⟩ rfl rfl ?_
    refine xcall 30 [.ref 66] [.int _] hH ⟨u275, _, rfl⟩ rfl rfl rfl rfl rfl (k_points hH (fun z27 h27 => ⟨_, rfl, ?_⟩))
    refine xcmp_ge 33 ⟨u275, _, rfl⟩ rfl (fun c30 => ?_) (fun c30 => ?_)
    · omega
    · refine xild 34 ⟨u275, _, rfl⟩ rfl rfl ?_
      refine xcst 35 (1) ⟨u275, _, rfl⟩ rfl (by decide) (fun z34 h34 => ?_)
      refine xadd 36 _ ⟨u275, _, rfl⟩ rfl rfl (by omega) (by omega) (fun z35 h35 => ?_)
      refine xist2 38 ⟨u275, _, rfl⟩ rfl rfl ?_
      refine l275z hV15 hwx hwy hxy (by omega) (fun hp1 w1 v41 k1 k2 k3 k4 => ?_) (V - (y + 1)) (y + 1) _ hp _ (by omega) (by omega) (by omega) hH hF (by rw [fuS_no (T := T) (V := V) (n := 225 * x + 15 * y) (n1 := 225 * x + 15 * y + (y + 1)) (by omega) (fun k k1 k2 k3 => by omega)]; exact hB) (by rw [fuS_no (T := T) (V := V) (n := 225 * x + 15 * y) (n1 := 225 * x + 15 * y + (y + 1)) (by omega) (fun k k1 k2 k3 => by omega)]; exact hw)
      refine xinc 81 (1) ⟨u275, _, rfl⟩ rfl rfl rfl (by decide) (by omega) (by omega) (fun z78 h78 => ?_)
      refine xgoto ⟨u275, _, rfl⟩ ?_
      exact ih (y + 1) _ hp1 _ _ (by omega) (by omega) (by omega) k1 k2 k3 k4
theorem l275x {d V n : Nat} {T : sT} {ty : Nat → Int} {h : Nat → sR} {sv : Option sR} {hp0 : amH} {R : xQ} (hV15 : V ≤ 15) (hR : ∀ (w : Int32) hp, bHk 84 bTT hp → bFr [(67, 999)] hp0 hp → (P0 hp ∧ rfS hp (V, (fuS V T (3375)).1, ty) n h sv) → w.toInt = (((fuS V T (3375)).2 : Nat) : Int) → R (.inl (some (.int w))) hp) :
    ∀ (jj x : Nat) (wx : Int32) (hp : amH) (w : Int32) (v3 v4 : Option Value), wx.toInt = (x : Int) → x + jj = V → bHk 84 bTT hp → bFr [(67, 999)] hp0 hp → (P0 hp ∧ rfS hp (V, (fuS V T (225 * x)).1, ty) n h sv) → w.toInt = (((fuS V T (225 * x)).2 : Nat) : Int) → xV (d + 4) am_m275 13 [some (.ref 66), some (.int w), some (.int wx), v3, v4] [] hp R := by
  intro jj
  induction jj with
  | zero =>
    intro x wx hp w v3 v4 hwx hj hH hF hB hw
    have bV := hB.2.1.1
    refine xild 14 ⟨u275, _, rfl⟩ rfl rfl ?_
    refine xald 15 ⟨u275, _, rfl⟩ rfl rfl ?_
    refine xcall 18 [.ref 66] [.int _] hH ⟨u275, _, rfl⟩ rfl rfl rfl rfl rfl (k_points hH (fun z15 h15 => ⟨_, rfl, ?_⟩))
    refine xcmp_ge 21 ⟨u275, _, rfl⟩ rfl (fun c18 => ?_) (fun c18 => ?_)
    · refine xild 91 ⟨u275, _, rfl⟩ rfl rfl ?_
      exact xret ⟨u275, _, rfl⟩ rfl (hR _ hp hH hF (by rw [fuS_no (T := T) (V := V) (n := 225 * x) (n1 := 3375) (by omega) (fun k k1 k2 k3 => by omega)]; exact hB) (by rw [fuS_no (T := T) (V := V) (n := 225 * x) (n1 := 3375) (by omega) (fun k k1 k2 k3 => by omega)]; exact hw))
    · omega
  | succ jj ih =>
    intro x wx hp w v3 v4 hwx hj hH hF hB hw
    have bV := hB.2.1.1
    refine xild 14 ⟨u275, _, rfl⟩ rfl rfl ?_
    refine xald 15 ⟨u275, _, rfl⟩ rfl rfl ?_
    refine xcall 18 [.ref 66] [.int _] hH ⟨u275, _, rfl⟩ rfl rfl rfl rfl rfl (k_points hH (fun z15 h15 => ⟨_, rfl, ?_⟩))
    refine xcmp_ge 21 ⟨u275, _, rfl⟩ rfl (fun c18 => ?_) (fun c18 => ?_)
    · omega
    · refine xild 22 ⟨u275, _, rfl⟩ rfl rfl ?_
      refine xcst 23 (1) ⟨u275, _, rfl⟩ rfl (by decide) (fun z22 h22 => ?_)
      refine xadd 24 _ ⟨u275, _, rfl⟩ rfl rfl (by omega) (by omega) (fun z23 h23 => ?_)
      refine xist 25 ⟨u275, _, rfl⟩ rfl rfl ?_
      refine l275y hV15 hwx (by omega) (fun hp1 w1 v31 v41 k1 k2 k3 k4 => ?_) (V - (x + 1)) (x + 1) _ hp _ _ (by omega) (by omega) (by omega) hH hF (by rw [fuS_no (T := T) (V := V) (n := 225 * x) (n1 := 225 * x + 15 * (x + 1)) (by omega) (fun k k1 k2 k3 => by omega)]; exact hB) (by rw [fuS_no (T := T) (V := V) (n := 225 * x) (n1 := 225 * x + 15 * (x + 1)) (by omega) (fun k k1 k2 k3 => by omega)]; exact hw)
      refine xinc 87 (1) ⟨u275, _, rfl⟩ rfl rfl rfl (by decide) (by omega) (by omega) (fun z84 h84 => ?_)
      refine xgoto ⟨u275, _, rfl⟩ ?_
      exact ih (x + 1) _ hp1 _ _ _ (by omega) (by omega) k1 k2 k3 k4
theorem k_22E {d V : Nat} {T : sT} {hp : amH} {R : xQ} (hH : bHk 84 bTT hp) (hB : bdOk hp 3 V T) (hR : ∀ (w : Int32) hp1, bHk 84 bTT hp1 → bFx [4, 6] hp hp1 → bdOk hp1 3 V (fuS V T 3375).1 → w.toInt = (((fuS V T 3375).2 : Nat) : Int) → R (.inl (some (.int w))) hp1) : xK (d + 3) 22 [.ref 3] hp R := by
  refine xin (M := am_m22) rfl rfl rfl ?_
  refine xcst 1 (0) ⟨u22, _, rfl⟩ rfl (by decide) (fun z0 h0 => ?_)
  refine xist 2 ⟨u22, _, rfl⟩ rfl rfl ?_
  refine xcst 3 (0) ⟨u22, _, rfl⟩ rfl (by decide) (fun z2 h2 => ?_)
  refine xist 4 ⟨u22, _, rfl⟩ rfl rfl ?_
  refine xpad 2 ?_
  exact l22x hB.2.1.2.1 hR V 0 _ hp _ _ _ (by omega) (by omega) hH bFx.refl hB (by rw [h0]; rfl)
theorem k_129E {d V n : Nat} {h : Nat → sR} {sv : Option sR} {T : sT} {ty : Nat → Int} {hp : amH} {R : xQ} (hH : bHk 84 bTT hp) (hS : clS hp (V, T, ty) n h sv)
    (hR : ∀ (z : Int32) hp1, bHk 84 bTT hp1 → cF hp hp1 → clS hp1 (V, (fuS V T 3375).1, ty) (pM n + 1) (pH n h (V, T, ty)) sv → z.toInt = (((fuS V T 3375).2 : Nat) : Int) → R (.inl (some (.int z))) hp1) : xK (d + 6) 129 [.ref 0] hp R := by
  refine xin (M := am_m129) rfl rfl rfl ?_
  refine xald 1 ⟨u129, _, rfl⟩ rfl rfl ?_
  refine xcallC 4 (o := 0) [] [] hH ⟨u129, _, rfl⟩ rfl rfl (by decide) rfl (by decide) rfl ⟨rfl, rfl, rfl, rfl⟩ rfl (k_cmS hH hS (fun hp1 hH1 F1 S1 => ⟨_, rfl, ?_⟩))
  refine xald 5 ⟨u129, _, rfl⟩ rfl rfl ?_
  refine xgetD 8 (3) hH1 ⟨u129, _, rfl⟩ rfl (by decide) (by decide) rfl rfl (by decide) ?_
  refine xcallC 11 (o := 3) [] [] hH1 ⟨u129, _, rfl⟩ rfl rfl (by decide) rfl (by decide) rfl ⟨rfl, rfl, rfl, rfl⟩ rfl (k_22E hH1 (V := V) (T := T) S1.1 (fun z8 hp8 hH8 F8 B8 e8 => ⟨_, rfl, ?_⟩))
  refine xist 12 ⟨u129, _, rfl⟩ rfl rfl ?_
  refine xald 13 ⟨u129, _, rfl⟩ rfl rfl ?_
  refine xcallC 16 (o := 0) [] [] hH8 ⟨u129, _, rfl⟩ rfl rfl (by decide) rfl (by decide) rfl ⟨rfl, rfl, rfl, rfl⟩ rfl (k_stS hH8 (ty := ty) B8 (fun i hi => (bFx_n F8 (by simp)).trans (S1.2.2.2.1 i hi)) (hyC_fr S1.2.2.2.2 (fun c k c1 c2 => F8 c k (by simp; omega))) (fun hp13 hH13 F13 S13 => ⟨_, rfl, ?_⟩))
  refine xild 17 ⟨u129, _, rfl⟩ rfl rfl ?_
  exact xret ⟨u129, _, rfl⟩ rfl (hR _ hp13 hH13 ((cF_hy F1).trans ((cF_x F8 (by simp)).trans (cF_x F13 (by simp)))) S13 e8)
theorem k_275E {d V n : Nat} {h : Nat → sR} {sv : Option sR} {T : sT} {ty : Nat → Int} {hp : amH} {R : xQ} (hH : bHk 84 bTT hp) (hP : P0 hp) (hS : rfS hp (V, T, ty) n h sv)
    (hR : ∀ (z : Int32) hp1, bHk 84 bTT hp1 → P0 hp1 → bFr wM hp hp1 → rfS hp1 (V, (fuS V T 3375).1, ty) (pM n + 1) (pH n h (V, T, ty)) sv → z.toInt = (((fuS V T 3375).2 : Nat) : Int) → R (.inl (some (.int z))) hp1) : xK (d + 4) 275 [.ref 66] hp R := by
  have hV : V ≤ 15 := hS.1.2.1.2.1
  refine xin (M := am_m275) rfl rfl rfl ?_
  refine xald 1 ⟨u275, _, rfl⟩ rfl rfl ?_
  refine xcst 2 (0) ⟨u275, _, rfl⟩ rfl (by decide) (fun z1 h1 => ?_)
  refine xputI 5 hH ⟨u275, _, rfl⟩ rfl rfl ⟨rfl, rfl⟩ (by omega) (by omega) (fun hp2 hH2 U2 => ?_)
  have s2 := U2.1
  refine xald 6 ⟨u275, _, rfl⟩ rfl rfl ?_
  refine xcall 9 [.ref 66] [] hH2 ⟨u275, _, rfl⟩ rfl rfl rfl rfl rfl (k_rmS hH2 (P0_W (W := [(66, 7)]) (by decide) (rU_fr U2 rfl) hP) (rfS_W (W := [(66, 7)]) hS (rU_fr U2 rfl) (fun _ => rfl) rfl rfl (fun _ => rfl) (fun _ => rfl)) (fun hp6 hH6 P6 F6 S6 => ⟨_, rfl, ?_⟩))
  refine xcst 10 (0) ⟨u275, _, rfl⟩ rfl (by decide) (fun z9 h9 => ?_)
  refine xist 11 ⟨u275, _, rfl⟩ rfl rfl ?_
  refine xcst 12 (0) ⟨u275, _, rfl⟩ rfl (by decide) (fun z11 h11 => ?_)
  refine xist 13 ⟨u275, _, rfl⟩ rfl rfl ?_
  refine xpad 2 ?_
  exact l275x (T := T) (ty := ty) (h := pH n h (V, T, ty)) (n := pM n + 1) (sv := sv) hV (fun w hp1 k1 k2 k3 k4 => hR w hp1 k1 k3.1 (((rU_fr U2 (by decide)).trans (bFr_sub F6 (by decide))).trans (bFr_sub k2 (by decide))) k3.2 k4) V 0 _ hp6 _ _ _ (by omega) (by omega) hH6 (bFr.refl _ _) ⟨P6, S6⟩ (by rw [h9]; rfl)
end
/-! ##### 19.m.062.36h ##### -/
section
/-! ===== the triples that meet a set dropped ===== -/
/-- the triples numbered below n that B says taken -/
def dP (B : Nat → Bool) (T : sT) : Nat → sT
  | 0 => T
  | n + 1 => if trB T n = true ∧ B n = true then sTake (dP B T n) (n / 15) (n % 15) (T (n / 15) (n % 15)).toNat else dP B T n
theorem dP_len {B : Nat → Bool} {T : sT} {n : Nat} : ∀ k, (trL T (n + k)).length = (trL T n).length → dP B T (n + k) = dP B T n
  | 0, _ => rfl
  | k + 1, h => by
    have e : (trL T (n + (k + 1))) = (if trB T (n + k) = true then trL T (n + k) ++ [n + k] else trL T (n + k)) := rfl
    have m := trL_mono (T := T) n k
    rw [e] at h
    split at h
    · rw [List.length_append, List.length_singleton] at h
      omega
    · next g =>
      have e2 : dP B T (n + (k + 1)) = dP B T (n + k) := by
        show (if _ then _ else _) = _
        rw [if_neg (fun z => g z.1)]
        rfl
      rw [e2]
      exact dP_len k h
theorem dP_eq {B : Nat → Bool} {T : sT} {n m : Nat} (h : (trL T n).length = (trL T m).length) : dP B T n = dP B T m := by
  rcases Nat.le_total n m with g | g
  · obtain ⟨k, rfl⟩ := Nat.exists_eq_add_of_le g
    exact (dP_len k h.symm).symm
  · obtain ⟨k, rfl⟩ := Nat.exists_eq_add_of_le g
    exact dP_len k h
/-- what is left -/
theorem dP_s {V : Nat} {B : Nat → Bool} {T : sT} (hT : sOk V T) : ∀ n, sOk V (dP B T n) ∧ ∀ u v, (dP B T n u v = -1 ∧ (T u v = -1 ∨ (cd T u v < n ∧ B (cd T u v) = true))) ∨ (dP B T n u v = T u v ∧ ¬ T u v = -1 ∧ ¬ (cd T u v < n ∧ B (cd T u v) = true))
  | 0 => ⟨hT, fun u v => by
    by_cases h : T u v = -1
    · exact Or.inl ⟨h, Or.inl h⟩
    · exact Or.inr ⟨rfl, h, by omega⟩⟩
  | n + 1 => by
    obtain ⟨i1, i2⟩ := dP_s hT n
    by_cases hb : trB T n = true ∧ B n = true
    · obtain ⟨z, ez, h1, h2, h3⟩ := tr_pts hT hb.1
      have e : dP B T (n + 1) = sTake (dP B T n) (n / 15) (n % 15) z := by
        show (if _ then _ else _) = _
        rw [if_pos hb, ez, Int.toNat_natCast]
      have q := fun u v hp => cd_pr hT (u := u) (v := v) hb.1 hp
      rw [ez, Int.toNat_natCast] at q
      have en : dP B T n (n / 15) (n % 15) = (z : Int) := by
        have c := (q (n / 15) (n % 15) ⟨by omega, by omega, by omega⟩).2.2
        rcases i2 (n / 15) (n % 15) with g | g
        · rcases g.2 with k | k
          · omega
          · omega
        · exact g.1.trans ez
      rw [e]
      refine ⟨sOk_take i1 en, fun u v => ?_⟩
      by_cases hp : sPr (n / 15) (n % 15) z u v
      · have c := q u v hp
        refine Or.inl ⟨by unfold sTake; rw [if_pos hp], Or.inr ⟨by omega, by rw [c.2.2]; exact hb.2⟩⟩
      · have s : sTake (dP B T n) (n / 15) (n % 15) z u v = dP B T n u v := by unfold sTake; rw [if_neg hp]
        rw [s]
        rcases i2 u v with g | g
        · exact Or.inl ⟨g.1, g.2.imp id (fun k => ⟨by omega, k.2⟩)⟩
        · refine Or.inr ⟨g.1, g.2.1, fun k => g.2.2 ⟨?_, k.2⟩⟩
          have c := (cd_of hT g.2.1).2.2
          by_cases w : cd T u v = n
          · rw [w, ez, Int.toNat_natCast] at c
            exact absurd c hp
          · omega
    · have e : dP B T (n + 1) = dP B T n := by
        show (if _ then _ else _) = _
        rw [if_neg hb]
      rw [e]
      refine ⟨i1, fun u v => ?_⟩
      rcases i2 u v with g | g
      · exact Or.inl ⟨g.1, g.2.imp id (fun k => ⟨by omega, k.2⟩)⟩
      · refine Or.inr ⟨g.1, g.2.1, fun k => g.2.2 ⟨?_, k.2⟩⟩
        by_cases w : cd T u v = n
        · exact absurd ⟨by rw [← w]; exact (cd_of hT g.2.1).1, by rw [← w]; exact k.2⟩ hb
        · omega
theorem dP_next {V : Nat} {B : Nat → Bool} {T : sT} (hT : sOk V T) {t m : Nat} (ht : t < (trL T 225).length) (hm : (trL T m).length = t) : ∃ n x y z : Nat, (trL T 225).getD t 0 = n ∧ mN T t = m3 x y z ∧ x < y ∧ y < z ∧ z < V ∧ (trL T (n + 1)).length = t + 1 ∧ dP B T m x y = (z : Int) ∧ (B n = true → dP B T (n + 1) = sTake (dP B T m) x y z) ∧ (¬ B n = true → dP B T (n + 1) = dP B T m) := by
  obtain ⟨g1, g2, g3⟩ := trL_get 225 t ht
  obtain ⟨z, ez, h1, h2, h3⟩ := tr_pts hT g1
  have em : mN T t = m3 ((trL T 225).getD t 0 / 15) ((trL T 225).getD t 0 % 15) z := by unfold mN mk3; rw [ez, Int.toNat_natCast]
  generalize hn : (trL T 225).getD t 0 = n at *
  have e : dP B T n = dP B T m := dP_eq (g3.trans hm.symm)
  have el : (trL T (n + 1)).length = t + 1 := by rw [trL_add g1, List.length_append, List.length_singleton, g3]
  refine ⟨n, n / 15, n % 15, z, rfl, em, h1, h2, h3, el, ?_, fun hb => ?_, fun hb => ?_⟩
  · rw [← e]
    have c := (cd_pr hT g1 (u := n / 15) (v := n % 15) (by rw [ez, Int.toNat_natCast]; exact ⟨by omega, by omega, by omega⟩)).2.2
    rcases (dP_s (B := B) hT n).2 (n / 15) (n % 15) with g | g
    · rcases g.2 with k | k <;> omega
    · exact g.1.trans ez
  · show (if _ then _ else _) = _
    rw [if_pos ⟨g1, hb⟩, e, ez, Int.toNat_natCast]
  · show (if _ then _ else _) = _
    rw [if_neg (fun k => hb k.2), e]
/-- whether the triple numbered n has c points of the set m -/
def mtB (T : sT) (m : Nat) (c : Int) (n : Nat) : Bool := decide (c ≤ bcN (mk3 T n &&& m))
theorem u27 : bUp 0 am_m27.1 = true := by decide +kernel
theorem l27E {d V m : Nat} {T : sT} {hp0 : amH} {R : xQ} {s wc : Int32} (hB0 : bdOk hp0 3 V T) (hL0 : lsN hp0 3 T 225) (hs : s.toInt = (m : Int)) (hm : m < 32768)
    (hR : ∀ (z : Int32) hp1, bHk 84 bTT hp1 → bFx [4, 6] hp0 hp1 → bdOk hp1 3 V (dP (mtB T m wc.toInt) T 225) → z.toInt + (((trL (dP (mtB T m wc.toInt) T 225) 225).length : Nat) : Int) = (((trL T 225).length : Nat) : Int) → R (.inl (some (.int z))) hp1) :
    ∀ (jj t k : Nat) (w wt : Int32) (hp : amH), wt.toInt = (t : Int) → t + jj = (trL T 225).length → (trL T k).length = t → bHk 84 bTT hp → bFx [4, 6] hp0 hp → bdOk hp 3 V (dP (mtB T m wc.toInt) T k) → w.toInt + (((trL (dP (mtB T m wc.toInt) T k) 225).length : Nat) : Int) = (((trL T 225).length : Nat) : Int) → w.toInt ≤ (t : Int) → 0 ≤ w.toInt → xV (d + 3) am_m27 5 [some (.ref 3), some (.int s), some (.int wc), some (.int w), some (.int wt)] [] hp R := by
  have hT := hB0.2.1
  have l35 := trL_35 hT 225
  intro jj
  induction jj with
  | zero =>
    intro t k w wt hp hwt hj hk hH hF hB hw hle hge
    have e1 : rN hp 3 1 = rN hp0 3 1 := bFx_n hF (by simp)
    have L1 := hL0.1
    have eT : dP (mtB T m wc.toInt) T k = dP (mtB T m wc.toInt) T 225 := dP_eq (by omega)
    rw [eT] at hB hw
    refine xild2 7 ⟨u27, _, rfl⟩ rfl rfl ?_
    refine xald 8 ⟨u27, _, rfl⟩ rfl rfl ?_
    refine xgetC 11 hH ⟨u27, _, rfl⟩ rfl (by decide) (by decide) rfl rfl (by decide) (fun z8 h8 => ?_)
    refine xcmp_ge 14 ⟨u27, _, rfl⟩ rfl (fun c11 => ?_) (fun c11 => ?_)
    · refine xild 49 ⟨u27, _, rfl⟩ rfl rfl ?_
      exact xret ⟨u27, _, rfl⟩ rfl (hR _ hp hH hF hB hw)
    · omega
  | succ jj ih =>
    intro t k w wt hp hwt hj hk hH hF hB hw hle hge
    have e1 : rN hp 3 1 = rN hp0 3 1 := bFx_n hF (by simp)
    have L1 := hL0.1
    have hL : lsN hp 3 T 225 := lsN_fr hL0 (bFx_n hF (by simp)) (fun _ => bFx_n hF (by simp)) (fun _ => bFx_n hF (by simp))
    obtain ⟨n, x, y, z, q1, q2, q3, q4, q5, q6, q7, q8, q9⟩ := dP_next (B := mtB T m wc.toInt) hT (t := t) (by omega) hk
    have ml := (mN_lt hT (show t < (trL T 225).length by omega)).1
    have hmt : mtB T m wc.toInt n = true ↔ wc.toInt ≤ bcN (mN T t &&& m) := by
      unfold mtB mN
      rw [decide_eq_true_iff, q1]
    refine xild2 7 ⟨u27, _, rfl⟩ rfl rfl ?_
    refine xald 8 ⟨u27, _, rfl⟩ rfl rfl ?_
    refine xgetC 11 hH ⟨u27, _, rfl⟩ rfl (by decide) (by decide) rfl rfl (by decide) (fun z8 h8 => ?_)
    refine xcmp_ge 14 ⟨u27, _, rfl⟩ rfl (fun c11 => ?_) (fun c11 => ?_)
    · omega
    · refine xald 15 ⟨u27, _, rfl⟩ rfl rfl ?_
      refine xild2 17 ⟨u27, _, rfl⟩ rfl rfl ?_
      refine xcallC 20 (o := 3) [.int _] [] hH ⟨u27, _, rfl⟩ rfl rfl (by decide) rfl (by decide) rfl ⟨rfl, rfl, rfl, rfl⟩ rfl (k_setL hH hL (t := t) (by omega) (by omega) (fun z17 h17 => ⟨_, rfl, ?_⟩))
      refine xild 21 ⟨u27, _, rfl⟩ rfl rfl ?_
      refine xand 22 ⟨u27, _, rfl⟩ rfl ?_
      refine xcallS 25 [.int _] [] hH ⟨u27, _, rfl⟩ rfl rfl rfl rfl rfl (k_bc (i_and h17 hs ml).1 (fun z22 h22 => ⟨_, rfl, ?_⟩))
      refine xild 26 ⟨u27, _, rfl⟩ rfl rfl ?_
      refine xcmp_lt 29 ⟨u27, _, rfl⟩ rfl (fun c26 => ?_) (fun c26 => ?_)
      · refine xinc 45 (1) ⟨u27, _, rfl⟩ rfl rfl rfl (by decide) (by omega) (by omega) (fun z42 h42 => ?_)
        refine xgoto ⟨u27, _, rfl⟩ ?_
        have hb := q9 (fun z => by have := hmt.mp z; omega)
        exact ih (t + 1) (n + 1) _ _ hp (by omega) (by omega) q6 hH hF (by rw [hb]; exact hB) (by rw [hb]; exact hw) (by omega) hge
      · refine xald 30 ⟨u27, _, rfl⟩ rfl rfl ?_
        refine xald 31 ⟨u27, _, rfl⟩ rfl rfl ?_
        refine xild2 33 ⟨u27, _, rfl⟩ rfl rfl ?_
        refine xcallC 36 (o := 3) [.int _] [.ref 3] hH ⟨u27, _, rfl⟩ rfl rfl (by decide) rfl (by decide) rfl ⟨rfl, rfl, rfl, rfl⟩ rfl (k_setL hH hL (t := t) (by omega) (by omega) (fun z33 h33 => ⟨_, rfl, ?_⟩))
        refine xcallC 39 (o := 3) [.int _] [] hH ⟨u27, _, rfl⟩ rfl rfl (by decide) rfl (by decide) rfl ⟨rfl, rfl, rfl, rfl⟩ rfl (k_bdrop (o := 3) (Or.inl rfl) hH hB (by rw [h33, q2]) q3 q4 q7 (fun hp36 hH36 F36 B36 => ⟨_, rfl, ?_⟩))
        refine xinc 42 (1) ⟨u27, _, rfl⟩ rfl rfl rfl (by decide) (by omega) (by omega) (fun z39 h39 => ?_)
        refine xinc 45 (1) ⟨u27, _, rfl⟩ rfl rfl rfl (by decide) (by omega) (by omega) (fun z42 h42 => ?_)
        refine xgoto ⟨u27, _, rfl⟩ ?_
        have lt := len_take hB.2.1 q7
        have hb := q8 (hmt.mpr (by omega))
        exact ih (t + 1) (n + 1) _ _ hp36 (by omega) (by omega) q6 hH36 (hF.trans (F36.mono (by simp))) (by rw [hb]; exact B36) (by rw [hb]; omega) (by omega) (by omega)
theorem k_27E {d V m : Nat} {T : sT} {hp : amH} {R : xQ} {s wc : Int32} (hH : bHk 84 bTT hp) (hB : bdOk hp 3 V T) (hL : lsN hp 3 T 225) (hs : s.toInt = (m : Int)) (hm : m < 32768)
    (hR : ∀ (z : Int32) hp1, bHk 84 bTT hp1 → bFx [4, 6] hp hp1 → bdOk hp1 3 V (dP (mtB T m wc.toInt) T 225) → z.toInt + (((trL (dP (mtB T m wc.toInt) T 225) 225).length : Nat) : Int) = (((trL T 225).length : Nat) : Int) → R (.inl (some (.int z))) hp1) : xK (d + 3) 27 [.ref 3, .int s, .int wc] hp R := by
  refine xin (M := am_m27) rfl rfl rfl ?_
  refine xcst 1 (0) ⟨u27, _, rfl⟩ rfl (by decide) (fun z0 h0 => ?_)
  refine xist 2 ⟨u27, _, rfl⟩ rfl rfl ?_
  refine xcst 3 (0) ⟨u27, _, rfl⟩ rfl (by decide) (fun z2 h2 => ?_)
  refine xist2 5 ⟨u27, _, rfl⟩ rfl rfl ?_
  exact l27E hB hL hs hm hR (trL T 225).length 0 0 _ _ hp (by omega) (by omega) rfl hH bFx.refl hB (by rw [h0]; show (0 : Int) + _ = _; rw [Int.zero_add]; rfl) (by omega) (by omega)
end
/-! ##### 19.m.063.36i ##### -/
section
/-! ===== clear and force: the class ===== -/
theorem u168 : bUp 0 am_m168.1 = true := by decide +kernel
theorem u170 : bUp 0 am_m170.1 = true := by decide +kernel
theorem k_168E {d V n : Nat} {h : Nat → sR} {sv : Option sR} {T : sT} {ty : Nat → Int} {hp : amH} {R : xQ} {a : Int32} (hH : bHk 84 bTT hp) (hS : clS hp (V, T, ty) n h sv)
    (hT : ¬ gPt V a.toInt = 0 → R (.inr 1) hp)
    (hR : ∀ (z : Int32) hp1, bHk 84 bTT hp1 → cF hp hp1 → gPt V a.toInt = 0 → clS hp1 (V, dP (mtB T (2 ^ a.toInt.toNat) 1) T 225, ty) (pM n + 1) (pH n h (V, T, ty)) sv → z.toInt + (((trL (dP (mtB T (2 ^ a.toInt.toNat) 1) T 225) 225).length : Nat) : Int) = (((trL T 225).length : Nat) : Int) → R (.inl (some (.int z))) hp1) : xK (d + 6) 168 [.ref 0, .int a] hp R := by
  have hB : bdOk hp 3 V T := hS.1
  have hV := hB.2.1.2.1
  refine xin (M := am_m168) rfl rfl rfl ?_
  refine xald 1 ⟨u168, _, rfl⟩ rfl rfl ?_
  refine xild 2 ⟨u168, _, rfl⟩ rfl rfl ?_
  refine xcallT 5 (o := 0) [.int _] [] hH ⟨u168, _, rfl⟩ rfl rfl (by decide) rfl (by decide) rfl ⟨rfl, rfl, rfl, rfl⟩ rfl (k_rq1 hH hB.1 (fun g2 => Or.inl ⟨_, rfl, ?_⟩) (fun g2 => Or.inr ⟨_, rfl, rfl, hT (by omega)⟩))
  have k2 := gPt_0.mp g2
  refine xald 6 ⟨u168, _, rfl⟩ rfl rfl ?_
  refine xcallC 9 (o := 0) [] [] hH ⟨u168, _, rfl⟩ rfl rfl (by decide) rfl (by decide) rfl ⟨rfl, rfl, rfl, rfl⟩ rfl (k_cmS hH hS (fun hp6 hH6 F6 S6 => ⟨_, rfl, ?_⟩))
  refine xald 10 ⟨u168, _, rfl⟩ rfl rfl ?_
  refine xgetD 13 (3) hH6 ⟨u168, _, rfl⟩ rfl (by decide) (by decide) rfl rfl (by decide) ?_
  refine xcst 14 (1) ⟨u168, _, rfl⟩ rfl (by decide) (fun z13 h13 => ?_)
  refine xild 15 ⟨u168, _, rfl⟩ rfl rfl ?_
  refine xshl 16 ⟨u168, _, rfl⟩ rfl ?_
  have w1 := i_shl h13 (n := a.toInt.toNat) (c := a) (by omega) (by omega)
  refine xcst 17 (1) ⟨u168, _, rfl⟩ rfl (by decide) (fun z16 h16 => ?_)
  refine xcallC 20 (o := 3) [.int _, .int _] [] hH6 ⟨u168, _, rfl⟩ rfl rfl (by decide) rfl (by decide) rfl ⟨rfl, rfl, rfl, rfl⟩ rfl (k_27E hH6 (V := V) (T := T) (m := 2 ^ a.toInt.toNat) S6.1 S6.2.1 w1.1 w1.2 (fun z17 hp17 hH17 F17 B17 e17 => ⟨_, rfl, ?_⟩))
  rw [h16] at B17 e17
  refine xist 21 ⟨u168, _, rfl⟩ rfl rfl ?_
  refine xald 22 ⟨u168, _, rfl⟩ rfl rfl ?_
  refine xcallC 25 (o := 0) [] [] hH17 ⟨u168, _, rfl⟩ rfl rfl (by decide) rfl (by decide) rfl ⟨rfl, rfl, rfl, rfl⟩ rfl (k_stS hH17 (ty := ty) B17 (fun i hi => (bFx_n F17 (by simp)).trans (S6.2.2.2.1 i hi)) (hyC_fr S6.2.2.2.2 (fun c k c1 c2 => F17 c k (by simp; omega))) (fun hp22 hH22 F22 S22 => ⟨_, rfl, ?_⟩))
  refine xild 26 ⟨u168, _, rfl⟩ rfl rfl ?_
  exact xret ⟨u168, _, rfl⟩ rfl (hR _ hp22 hH22 ((cF_hy F6).trans ((cF_x F17 (by simp)).trans (cF_x F22 (by simp)))) g2 S22 e17)
/-- whether a triple can be forced: 0, else what is thrown -/
def fCd (V : Nat) (T : sT) (a b c : Int) : Int := if ¬ gSet V a b c = 0 then gSet V a b c else if T a.toNat b.toNat = c then 3 else 0
theorem fCd_1 {V : Nat} {T : sT} {a b c : Int} (h : ¬ gSet V a b c = 0) : fCd V T a b c = gSet V a b c := by unfold fCd; rw [if_pos h]
theorem fCd_3 {V : Nat} {T : sT} {a b c : Int} (h : gSet V a b c = 0) (h2 : T a.toNat b.toNat = c) : fCd V T a b c = 3 := by unfold fCd; rw [if_neg (fun z => z h), if_pos h2]
theorem fCd_2 {V : Nat} {T : sT} {a b c : Int} (h : gSet V a b c = 0) (h2 : ¬ T a.toNat b.toNat = c) : fCd V T a b c = 0 := by unfold fCd; rw [if_neg (fun z => z h), if_neg h2]
end
/-! ##### 19.m.064.36j ##### -/
section
/-! ===== common points of a triple and a set (pure) ===== -/
theorem pbc_sm : ∀ (k n : Nat), pbc k n = sm (fun j => (n.testBit j).toNat) k
  | 0, _ => rfl
  | k + 1, n => by
    have a : sm (fun j => (n.testBit j).toNat) (1 + k) = sm (fun j => (n.testBit j).toNat) 1 + sm (fun j => (n.testBit (1 + j)).toNat) k := sm_split _ 1 k
    have ih := pbc_sm k (n / 2)
    have e : sm (fun j => (n.testBit (1 + j)).toNat) k = sm (fun j => ((n / 2).testBit j).toNat) k := sm_ext k (fun j _ => by rw [Nat.add_comm 1 j, Nat.testBit_succ])
    have z : (n.testBit 0).toNat = n % 2 := by
      rw [Nat.testBit_zero]
      rcases Nat.mod_two_eq_zero_or_one n with h | h <;> simp [h]
    have s : sm (fun j => (n.testBit j).toNat) 1 = (n.testBit 0).toNat := Nat.zero_add _
    rw [Nat.add_comm k 1, a, s, z, e, ← ih, Nat.add_comm 1 k]
    rfl
theorem bcN_pc {m : Nat} (h : m < 32768) : bcN m = ((pbc 15 m : Nat) : Int) := by
  rw [← bcM_pc h]
  exact bcF_m h
/-- how many points of a triple are in a set -/
theorem bc_and {x y z M : Nat} (h1 : x < y) (h2 : y < z) (h3 : z < 15) : bcN (m3 x y z &&& M) = ((M.testBit x).toNat + (M.testBit y).toNat + (M.testBit z).toNat : Nat) := by
  have ml : m3 x y z &&& M < 32768 := Nat.lt_of_le_of_lt Nat.and_le_left (m3_lt (by omega) (by omega) h3)
  have e : ∀ j, j < 15 → ((m3 x y z &&& M).testBit j).toNat = (if j = x then (M.testBit x).toNat else 0) + (if j = y then (M.testBit y).toNat else 0) + (if j = z then (M.testBit z).toNat else 0) := by
    intro j _
    rw [Nat.testBit_and, m3_test]
    by_cases g1 : j = x
    · rw [if_pos g1, if_neg (show ¬ j = y by omega), if_neg (show ¬ j = z by omega), decide_eq_true (Or.inl g1), Bool.true_and, g1]
      rfl
    · by_cases g2 : j = y
      · rw [if_neg g1, if_pos g2, if_neg (show ¬ j = z by omega), decide_eq_true (Or.inr (Or.inl g2)), Bool.true_and, g2, Nat.zero_add]
        rfl
      · by_cases g3 : j = z
        · rw [if_neg g1, if_neg g2, if_pos g3, decide_eq_true (Or.inr (Or.inr g3)), Bool.true_and, g3, Nat.zero_add]
        · rw [if_neg g1, if_neg g2, if_neg g3, decide_eq_false (fun w => by rcases w with w | w | w <;> contradiction), Bool.false_and]
          rfl
  have o : ∀ k c, k < 15 → sm (fun j => if j = k then c else 0) 15 = c := fun k c hk => sm_one hk (if_pos rfl) (fun i _ g => if_neg g)
  rw [bcN_pc ml, pbc_sm, sm_ext 15 e, sm_add, sm_add, o x _ (by omega), o y _ (by omega), o z _ h3]
/-- two points of the set on a covered pair: the pair's triple has two points of it -/
theorem mtB_2 {V : Nat} {T : sT} (hT : sOk V T) {u v M : Nat} (h : ¬ T u v = -1) (hu : M.testBit u = true) (hv : M.testBit v = true) : mtB T M 2 (cd T u v) = true := by
  obtain ⟨g1, g2, g3⟩ := cd_of hT h
  obtain ⟨z, ez, h1, h2, h3⟩ := tr_pts hT g1
  have hV := hT.2.1
  unfold mtB mk3
  rw [decide_eq_true_iff]
  rw [ez, Int.toNat_natCast] at g3 ⊢
  rw [bc_and h1 h2 (by omega)]
  obtain ⟨d, e1, e2⟩ := g3
  have ha : ∀ {b : Bool}, b = true → b.toNat = 1 := fun h => by rw [h]; rfl
  have p1 := hu
  have p2 := hv
  rcases e1 with e1 | e1 | e1 <;> rcases e2 with e2 | e2 | e2 <;> first | exact absurd (e1.trans e2.symm) d | skip
  all_goals rw [e1] at p1; rw [e2] at p2; have q1 := ha p1; have q2 := ha p2; omega
/-- behind the drop the three pairs are free -/
theorem dP_free {V : Nat} {T : sT} (hT : sOk V T) {a b c : Nat} : sFree (dP (mtB T (m3 a b c) 2) T 225) a b c := by
  have hp : ∀ u v, (m3 a b c).testBit u = true → (m3 a b c).testBit v = true → dP (mtB T (m3 a b c) 2) T 225 u v = -1 := fun u v hu hv => by
    rcases (dP_s (B := mtB T (m3 a b c) 2) hT 225).2 u v with g | g
    · exact g.1
    · exact absurd ⟨cd_lt hT g.2.1, mtB_2 hT g.2.1 hu hv⟩ g.2.2
  have t : ∀ i, (i = a ∨ i = b ∨ i = c) → (m3 a b c).testBit i = true := fun i hi => by rw [m3_test]; exact decide_eq_true hi
  exact ⟨hp _ _ (t a (by simp)) (t b (by simp)), hp _ _ (t b (by simp)) (t c (by simp)), hp _ _ (t a (by simp)) (t c (by simp))⟩
/-- what forcing brings -/
def fcT (T : sT) (a b c : Nat) : sT := sPut (dP (mtB T (m3 a b c) 2) T 225) a b c
theorem k_170E {d V n : Nat} {h : Nat → sR} {sv : Option sR} {T : sT} {ty : Nat → Int} {hp : amH} {R : xQ} {a b c : Int32} (hH : bHk 84 bTT hp) (hS : clS hp (V, T, ty) n h sv)
    (hT : ∀ E, ¬ fCd V T a.toInt b.toInt c.toInt = 0 → exE (fCd V T a.toInt b.toInt c.toInt) E → R (.inr E) hp)
    (hR : ∀ (z : Int32) hp1, bHk 84 bTT hp1 → cF hp hp1 → fCd V T a.toInt b.toInt c.toInt = 0 → clS hp1 (V, fcT T a.toInt.toNat b.toInt.toNat c.toInt.toNat, ty) (pM n + 1) (pH n h (V, T, ty)) sv → z.toInt + (((trL (dP (mtB T (m3 a.toInt.toNat b.toInt.toNat c.toInt.toNat) 2) T 225) 225).length : Nat) : Int) = (((trL T 225).length : Nat) : Int) → R (.inl (some (.int z))) hp1) : xK (d + 6) 170 [.ref 0, .int a, .int b, .int c] hp R := by
  have hB : bdOk hp 3 V T := hS.1
  have hV := hB.2.1.2.1
  refine xin (M := am_m170) rfl rfl rfl ?_
  refine xald 1 ⟨u170, _, rfl⟩ rfl rfl ?_
  refine xild 2 ⟨u170, _, rfl⟩ rfl rfl ?_
  refine xild 3 ⟨u170, _, rfl⟩ rfl rfl ?_
  refine xild 4 ⟨u170, _, rfl⟩ rfl rfl ?_
  refine xcallT 7 (o := 0) [.int _, .int _, .int _] [] hH ⟨u170, _, rfl⟩ rfl rfl (by decide) rfl (by decide) rfl ⟨rfl, rfl, rfl, rfl⟩ rfl (k_rq3 hH hB.1 (fun g4 => Or.inl ⟨_, rfl, ?_⟩) (fun g4 => Or.inr ⟨_, rfl, rfl, hT 1 (by rw [fCd_1 (by omega)]; omega) (by rw [fCd_1 (by omega)]; exact Or.inl ⟨g4, rfl⟩)⟩) (fun g4 => Or.inr ⟨_, rfl, rfl, hT 0 (by rw [fCd_1 (by omega)]; omega) (by rw [fCd_1 (by omega)]; exact Or.inr (Or.inl ⟨g4, rfl⟩))⟩))
  have k4 := gSet_0.mp g4
  refine xild 8 ⟨u170, _, rfl⟩ rfl rfl ?_
  refine xild 9 ⟨u170, _, rfl⟩ rfl rfl ?_
  refine xild 10 ⟨u170, _, rfl⟩ rfl rfl ?_
  refine xcallS 13 [.int _, .int _, .int _] [] hH ⟨u170, _, rfl⟩ rfl rfl rfl rfl rfl (k_three (x := a.toInt.toNat) (y := b.toInt.toNat) (z := c.toInt.toNat) (by omega) (by omega) (by omega) (by omega) (by omega) (by omega) (fun z10 h10 => ⟨_, rfl, ?_⟩))
  refine xist2 15 ⟨u170, _, rfl⟩ rfl rfl ?_
  refine xald 16 ⟨u170, _, rfl⟩ rfl rfl ?_
  refine xgetD 19 (3) hH ⟨u170, _, rfl⟩ rfl (by decide) (by decide) rfl rfl (by decide) ?_
  refine xild2 21 ⟨u170, _, rfl⟩ rfl rfl ?_
  refine xcallC 24 (o := 3) [.int _] [] hH ⟨u170, _, rfl⟩ rfl rfl (by decide) rfl (by decide) rfl ⟨rfl, rfl, rfl, rfl⟩ rfl (k_hld (o := 3) (Or.inl rfl) hH hB (a := a.toInt.toNat) (b := b.toInt.toNat) (c := c.toInt.toNat) h10 (by omega) (by omega) (by omega) (by omega) (by omega) (by omega) (fun z21 h21 => ⟨_, rfl, ?_⟩))
  refine xif_eq 27 ⟨u170, _, rfl⟩ rfl (fun c24 => ?_) (fun c24 => ?_)
  · refine xald 39 ⟨u170, _, rfl⟩ rfl rfl ?_
    refine xcallC 42 (o := 0) [] [] hH ⟨u170, _, rfl⟩ rfl rfl (by decide) rfl (by decide) rfl ⟨rfl, rfl, rfl, rfl⟩ rfl (k_cmS hH hS (fun hp39 hH39 F39 S39 => ⟨_, rfl, ?_⟩))
    refine xald 43 ⟨u170, _, rfl⟩ rfl rfl ?_
    refine xgetD 46 (3) hH39 ⟨u170, _, rfl⟩ rfl (by decide) (by decide) rfl rfl (by decide) ?_
    refine xild2 48 ⟨u170, _, rfl⟩ rfl rfl ?_
    refine xcst 49 (2) ⟨u170, _, rfl⟩ rfl (by decide) (fun z48 h48 => ?_)
    refine xcallC 52 (o := 3) [.int _, .int _] [] hH39 ⟨u170, _, rfl⟩ rfl rfl (by decide) rfl (by decide) rfl ⟨rfl, rfl, rfl, rfl⟩ rfl (k_27E hH39 (V := V) (T := T) (m := m3 a.toInt.toNat b.toInt.toNat c.toInt.toNat) S39.1 S39.2.1 h10 (m3_lt (by omega) (by omega) (by omega)) (fun z49 hp49 hH49 F49 B49 e49 => ⟨_, rfl, ?_⟩))
    rw [h48] at B49 e49
    refine xist2 54 ⟨u170, _, rfl⟩ rfl rfl ?_
    refine xald 55 ⟨u170, _, rfl⟩ rfl rfl ?_
    refine xgetD 58 (3) hH49 ⟨u170, _, rfl⟩ rfl (by decide) (by decide) rfl rfl (by decide) ?_
    refine xild2 60 ⟨u170, _, rfl⟩ rfl rfl ?_
    refine xcallC 63 (o := 3) [.int _] [] hH49 ⟨u170, _, rfl⟩ rfl rfl (by decide) rfl (by decide) rfl ⟨rfl, rfl, rfl, rfl⟩ rfl (k_bputU (o := 3) (Or.inl rfl) hH49 B49 (a := a.toInt.toNat) (b := b.toInt.toNat) (c := c.toInt.toNat) h10 (by show _ < V; omega) (by show _ < V; omega) (by show _ < V; omega) (by omega) (by omega) (by omega) (dP_free hB.2.1) (fun hp60 hH60 F60 B60 => ⟨_, rfl, ?_⟩))
    refine xald 64 ⟨u170, _, rfl⟩ rfl rfl ?_
    refine xcallC 67 (o := 0) [] [] hH60 ⟨u170, _, rfl⟩ rfl rfl (by decide) rfl (by decide) rfl ⟨rfl, rfl, rfl, rfl⟩ rfl (k_stS hH60 (V := V) (T := fcT T a.toInt.toNat b.toInt.toNat c.toInt.toNat) (ty := ty) B60 (fun i hi => (bFx_n F60 (by simp)).trans ((bFx_n F49 (by simp)).trans (S39.2.2.2.1 i hi))) (hyC_fr S39.2.2.2.2 (fun c k c1 c2 => (F60 c k (by simp; omega)).trans (F49 c k (by simp; omega)))) (fun hp64 hH64 F64 S64 => ⟨_, rfl, ?_⟩))
    refine xild2 69 ⟨u170, _, rfl⟩ rfl rfl ?_
    exact xret ⟨u170, _, rfl⟩ rfl (hR _ hp64 hH64 ((cF_hy F39).trans ((cF_x F49 (by simp)).trans ((cF_x F60 (by simp)).trans (cF_x F64 (by simp))))) (fCd_2 g4 (by omega)) S64 e49)
  · exact xthr ⟨u170, _, rfl⟩ (by decide) rfl (by decide) (hT 2 (by rw [fCd_3 g4 (by omega)]; decide) (by rw [fCd_3 g4 (by omega)]; exact Or.inr (Or.inr ⟨rfl, rfl⟩)))
end
/-! ##### 19.m.065.36k ##### -/
section
/-! ===== clear and force: the reference ===== -/
/-- the triples of the pairs of p with the points below k taken -/
def rcT (T : sT) (p : Nat) : Nat → sT
  | 0 => T
  | k + 1 => if k = p then rcT T p k else rmT (rcT T p k) p k
theorem len_rm {V : Nat} {T : sT} (hT : sOk V T) (x y : Nat) : (((trL T 225).length : Nat) : Int) = (((trL (rmT T x y) 225).length : Nat) : Int) + cvT T x y := by
  unfold rmT cvT
  by_cases h : T x y = -1
  · rw [if_pos h, if_pos h]; omega
  · rw [if_neg h, if_neg h]
    obtain ⟨w, ew, -⟩ := sOk_at hT rfl h
    have := len_take hT ew
    rw [ew, Int.toNat_natCast]
    omega
theorem l278E {d V p n : Nat} {h : Nat → sR} {sv : Option sR} {T : sT} {ty : Nat → Int} {hp0 : amH} {R : xQ} {a : Int32} (hV : V ≤ 15) (ha : a.toInt = (p : Int)) (hpV : p < V)
    (hR : ∀ (z : Int32) hp1, bHk 84 bTT hp1 → P0 hp1 → bFr [(67, 999)] hp0 hp1 → rfS hp1 (V, rcT T p V, ty) n h sv → z.toInt + (((trL (rcT T p V) 225).length : Nat) : Int) = (((trL T 225).length : Nat) : Int) → R (.inl (some (.int z))) hp1) :
    ∀ (jj k : Nat) (w wk : Int32) (hp : amH), wk.toInt = (k : Int) → k + jj = V → bHk 84 bTT hp → P0 hp → bFr [(67, 999)] hp0 hp → rfS hp (V, rcT T p k, ty) n h sv → w.toInt + (((trL (rcT T p k) 225).length : Nat) : Int) = (((trL T 225).length : Nat) : Int) → 0 ≤ w.toInt → w.toInt ≤ (k : Int) → xV (d + 3) am_m278 18 [some (.ref 66), some (.int a), some (.int w), some (.int wk)] [] hp R := by
  intro jj
  induction jj with
  | zero =>
    intro k w wk hp hwk hj hH hP hF hS hw hge hle
    have bV : rN hp 67 0 = (V : Int) := hS.1.1
    have ek : k = V := by omega
    subst ek
    refine xild 19 ⟨u278, _, rfl⟩ rfl rfl ?_
    refine xald 20 ⟨u278, _, rfl⟩ rfl rfl ?_
    refine xcall 23 [.ref 66] [.int _] hH ⟨u278, _, rfl⟩ rfl rfl rfl rfl rfl (k_points hH (fun z20 h20 => ⟨_, rfl, ?_⟩))
    refine xcmp_ge 26 ⟨u278, _, rfl⟩ rfl (fun c23 => ?_) (fun c23 => ?_)
    · refine xild 47 ⟨u278, _, rfl⟩ rfl rfl ?_
      exact xret ⟨u278, _, rfl⟩ rfl (hR _ hp hH hP hF hS hw)
    · omega
  | succ jj ih =>
    intro k w wk hp hwk hj hH hP hF hS hw hge hle
    have bV : rN hp 67 0 = (V : Int) := hS.1.1
    refine xild 19 ⟨u278, _, rfl⟩ rfl rfl ?_
    refine xald 20 ⟨u278, _, rfl⟩ rfl rfl ?_
    refine xcall 23 [.ref 66] [.int _] hH ⟨u278, _, rfl⟩ rfl rfl rfl rfl rfl (k_points hH (fun z20 h20 => ⟨_, rfl, ?_⟩))
    refine xcmp_ge 26 ⟨u278, _, rfl⟩ rfl (fun c23 => ?_) (fun c23 => ?_)
    · omega
    · refine xild 27 ⟨u278, _, rfl⟩ rfl rfl ?_
      refine xild 28 ⟨u278, _, rfl⟩ rfl rfl ?_
      refine xcmp_eq 31 ⟨u278, _, rfl⟩ rfl (fun c28 => ?_) (fun c28 => ?_)
      · refine xinc 43 (1) ⟨u278, _, rfl⟩ rfl rfl rfl (by decide) (by omega) (by omega) (fun z40 h40 => ?_)
        refine xgoto ⟨u278, _, rfl⟩ ?_
        have er : rcT T p (k + 1) = rcT T p k := by
          show (if k = p then _ else _) = _
          rw [if_pos (by omega)]
        exact ih (k + 1) _ _ hp (by omega) (by omega) hH hP hF (by rw [er]; exact hS) (by rw [er]; exact hw) hge (by omega)
      · refine xild 32 ⟨u278, _, rfl⟩ rfl rfl ?_
        refine xald 33 ⟨u278, _, rfl⟩ rfl rfl ?_
        refine xild 34 ⟨u278, _, rfl⟩ rfl rfl ?_
        refine xild 35 ⟨u278, _, rfl⟩ rfl rfl ?_
        refine xcall 38 [.ref 66, .int _, .int _] [.int _] hH ⟨u278, _, rfl⟩ rfl rfl rfl rfl rfl (k_277E hH hP hS (x := p) (y := k) ha hwk hpV (by omega) (fun z35 hp35 hH35 P35 F35 S35 e35 o35 => ⟨_, rfl, ?_⟩))
        have lr := len_rm (show sOk V (rcT T p k) from hS.1.2.1) p k
        refine xadd 39 _ ⟨u278, _, rfl⟩ rfl rfl (by omega) (by omega) (fun z38 h38 => ?_)
        refine xist 40 ⟨u278, _, rfl⟩ rfl rfl ?_
        refine xinc 43 (1) ⟨u278, _, rfl⟩ rfl rfl rfl (by decide) (by omega) (by omega) (fun z40 h40 => ?_)
        refine xgoto ⟨u278, _, rfl⟩ ?_
        have er : rcT T p (k + 1) = rmT (rcT T p k) p k := by
          show (if k = p then _ else _) = _
          rw [if_neg (by omega)]
        exact ih (k + 1) _ _ hp35 (by omega) (by omega) hH35 P35 (hF.trans F35) (by rw [er]; exact S35) (by rw [er]; omega) (by omega) (by omega)
theorem k_278E {d V n : Nat} {h : Nat → sR} {sv : Option sR} {T : sT} {ty : Nat → Int} {hp : amH} {R : xQ} {a : Int32} (hH : bHk 84 bTT hp) (hP : P0 hp) (hS : rfS hp (V, T, ty) n h sv)
    (hR : ∀ (z : Int32) hp1, bHk 84 bTT hp1 → P0 hp1 → bFr wM hp hp1 → rN hp1 66 7 = gPt V a.toInt → ((¬ gPt V a.toInt = 0 ∧ rfS hp1 (V, T, ty) n h sv) ∨ (gPt V a.toInt = 0 ∧ rfS hp1 (V, rcT T a.toInt.toNat V, ty) (pM n + 1) (pH n h (V, T, ty)) sv ∧ z.toInt + (((trL (rcT T a.toInt.toNat V) 225).length : Nat) : Int) = (((trL T 225).length : Nat) : Int))) → R (.inl (some (.int z))) hp1) : xK (d + 3) 278 [.ref 66, .int a] hp R := by
  have hV : V ≤ 15 := hS.1.2.1.2.1
  have hV0 : rN hp 67 0 = (V : Int) := hS.1.1
  refine xin (M := am_m278) rfl rfl rfl ?_
  refine xald 1 ⟨u278, _, rfl⟩ rfl rfl ?_
  refine xild 2 ⟨u278, _, rfl⟩ rfl rfl ?_
  refine xcall 5 [.ref 66, .int _] [] hH ⟨u278, _, rfl⟩ rfl rfl rfl rfl rfl (k_gp1 hH hV0 hV (fun z2 hp2 hH2 F2 t2 o2 => ⟨_, rfl, ?_⟩))
  have S2 := rfS_W hS F2 (fun _ => rfl) rfl rfl (fun _ => rfl) (fun _ => rfl)
  have P2 : P0 hp2 := P0_W (W := [(66, 7)]) (by decide) F2 hP
  refine xif_eq 8 ⟨u278, _, rfl⟩ rfl (fun c5 => ?_) (fun c5 => ?_)
  · have g2 : gPt V a.toInt = 0 := by omega
    have k2 := gPt_0.mp g2
    refine xald 11 ⟨u278, _, rfl⟩ rfl rfl ?_
    refine xcall 14 [.ref 66] [] hH2 ⟨u278, _, rfl⟩ rfl rfl rfl rfl rfl (k_rmS hH2 P2 S2 (fun hp11 hH11 P11 F11 S11 => ⟨_, rfl, ?_⟩))
    refine xcst 15 (0) ⟨u278, _, rfl⟩ rfl (by decide) (fun z14 h14 => ?_)
    refine xist 16 ⟨u278, _, rfl⟩ rfl rfl ?_
    refine xcst 17 (0) ⟨u278, _, rfl⟩ rfl (by decide) (fun z16 h16 => ?_)
    refine xist 18 ⟨u278, _, rfl⟩ rfl rfl ?_
    exact l278E (T := T) (ty := ty) (n := pM n + 1) (h := pH n h (V, T, ty)) (sv := sv) (p := a.toInt.toNat) hV (by omega) (by omega) (fun z hp1 q1 q2 q3 q4 q5 => hR z hp1 q1 q2 (((bFr_sub F2 (by decide)).trans (bFr_sub F11 (by decide))).trans (bFr_sub q3 (by decide))) (by rw [show rN hp1 66 7 = rN hp11 66 7 from r_fr q3 rfl, show rN hp11 66 7 = rN hp2 66 7 from r_fr F11 rfl]; exact t2) (Or.inr ⟨g2, q4, q5⟩)) V 0 _ _ hp11 (by omega) (by omega) hH11 P11 (bFr.refl _ _) S11 (by rw [h14]; show (0 : Int) + _ = _; rw [Int.zero_add]; rfl) (by omega) (by omega)
  · refine xcst 9 (0) ⟨u278, _, rfl⟩ rfl (by decide) (fun z8 h8 => ?_)
    exact xret ⟨u278, _, rfl⟩ rfl (hR _ hp2 hH2 P2 (bFr_sub F2 (by decide)) t2 (Or.inl ⟨by omega, S2⟩))
end
/-! ##### 19.m.066.36l ##### -/
section
/-! ===== force: the reference ===== -/
theorem rmT_no {T : sT} {x y u v : Nat} (h : T u v = -1) : rmT T x y u v = -1 := by
  unfold rmT
  split
  · exact h
  · unfold sTake
    split
    · rfl
    · exact h
theorem rmT_at {V : Nat} {T : sT} (hT : sOk V T) {x y : Nat} (hxy : ¬ x = y) : rmT T x y x y = -1 := by
  unfold rmT
  by_cases h : T x y = -1
  · rw [if_pos h]; exact h
  · rw [if_neg h]
    unfold sTake
    rw [if_pos ⟨hxy, by simp, by simp⟩]
/-- the triples of the three pairs taken -/
def r3T (T : sT) (x y z : Nat) : sT := rmT (rmT (rmT T x y) y z) x z
theorem k_276E {d V n : Nat} {h : Nat → sR} {sv : Option sR} {T : sT} {ty : Nat → Int} {hp : amH} {R : xQ} {a b c : Int32} (hH : bHk 84 bTT hp) (hP : P0 hp) (hS : rfS hp (V, T, ty) n h sv)
    (hR : ∀ (z : Int32) hp1, bHk 84 bTT hp1 → P0 hp1 → bFr wM hp hp1 → rN hp1 66 7 = fCd V T a.toInt b.toInt c.toInt → ((¬ fCd V T a.toInt b.toInt c.toInt = 0 ∧ rfS hp1 (V, T, ty) n h sv) ∨ (fCd V T a.toInt b.toInt c.toInt = 0 ∧ rfS hp1 (V, sPut (r3T T a.toInt.toNat b.toInt.toNat c.toInt.toNat) a.toInt.toNat b.toInt.toNat c.toInt.toNat, ty) (pM n + 1) (pH n h (V, T, ty)) sv ∧ z.toInt + (((trL (r3T T a.toInt.toNat b.toInt.toNat c.toInt.toNat) 225).length : Nat) : Int) = (((trL T 225).length : Nat) : Int))) → R (.inl (some (.int z))) hp1) : xK (d + 4) 276 [.ref 66, .int a, .int b, .int c] hp R := by
  have hV : V ≤ 15 := hS.1.2.1.2.1
  have hV0 : rN hp 67 0 = (V : Int) := hS.1.1
  refine xin (M := am_m276) rfl rfl rfl ?_
  refine xald 1 ⟨u276, _, rfl⟩ rfl rfl ?_
  refine xild 2 ⟨u276, _, rfl⟩ rfl rfl ?_
  refine xild 3 ⟨u276, _, rfl⟩ rfl rfl ?_
  refine xild 4 ⟨u276, _, rfl⟩ rfl rfl ?_
  refine xcall 7 [.ref 66, .int _, .int _, .int _] [] hH ⟨u276, _, rfl⟩ rfl rfl rfl rfl rfl (k_gp3 hH hV0 hV (fun z4 hp4 hH4 F4 t4 o4 => ⟨_, rfl, ?_⟩))
  have S4 := rfS_W hS F4 (fun _ => rfl) rfl rfl (fun _ => rfl) (fun _ => rfl)
  have P4 : P0 hp4 := P0_W (W := [(66, 7)]) (by decide) F4 hP
  refine xif_ne 10 ⟨u276, _, rfl⟩ rfl (fun c7 => ?_) (fun c7 => ?_)
  · refine xcst 34 (0) ⟨u276, _, rfl⟩ rfl (by decide) (fun z33 h33 => ?_)
    exact xret ⟨u276, _, rfl⟩ rfl (hR _ hp4 hH4 P4 (bFr_sub F4 (by decide)) (by rw [t4, fCd_1 (by omega)]) (Or.inl ⟨by rw [fCd_1 (by omega)]; omega, S4⟩))
  · have g4 : gSet V a.toInt b.toInt c.toInt = 0 := by omega
    have k4 := gSet_0.mp g4
    refine xald 11 ⟨u276, _, rfl⟩ rfl rfl ?_
    refine xald 12 ⟨u276, _, rfl⟩ rfl rfl ?_
    refine xild 13 ⟨u276, _, rfl⟩ rfl rfl ?_
    refine xild 14 ⟨u276, _, rfl⟩ rfl rfl ?_
    refine xcall 17 [.ref 66, .int _, .int _] [.ref 66] hH4 ⟨u276, _, rfl⟩ rfl rfl rfl rfl rfl (k_third hH4 (by omega) (by omega) (by omega) (by omega) (fun z14 h14 => ⟨_, rfl, ?_⟩))
    rw [(rowOk_rd S4.1).2.2.1 a.toInt.toNat b.toInt.toNat (by omega) (by omega)] at h14
    have h14 : z14.toInt = T a.toInt.toNat b.toInt.toNat := h14
    refine xild 18 ⟨u276, _, rfl⟩ rfl rfl ?_
    refine xcmp_ne 21 ⟨u276, _, rfl⟩ rfl (fun c18 => ?_) (fun c18 => ?_)
    · refine xcst 26 (0) ⟨u276, _, rfl⟩ rfl (by decide) (fun z25 h25 => ?_)
      refine xcst 27 (3) ⟨u276, _, rfl⟩ rfl (by decide) (fun z26 h26 => ?_)
      refine xcall 30 [.ref 66, .int _, .int _] [] hH4 ⟨u276, _, rfl⟩ rfl rfl rfl rfl rfl (k_failsE hH4 (by omega) (fun hp27 hH27 V27 => ⟨_, rfl, ?_⟩))
      refine xif_eq 33 ⟨u276, _, rfl⟩ rfl (fun c30 => ?_) (fun c30 => ?_)
      · have hpe : hp4 = hp27 := by
          rcases V27 with ⟨q1, e⟩ | ⟨q1, -⟩
          · exact e.symm
          · omega
        subst hpe
        have nf : ¬ T a.toInt.toNat b.toInt.toNat = c.toInt := by omega
        refine xald 36 ⟨u276, _, rfl⟩ rfl rfl ?_
        refine xcall 39 [.ref 66] [] hH27 ⟨u276, _, rfl⟩ rfl rfl rfl rfl rfl (k_rmS hH27 P4 S4 (fun hp36 hH36 P36 F36 S36 => ⟨_, rfl, ?_⟩))
        refine xald 40 ⟨u276, _, rfl⟩ rfl rfl ?_
        refine xild 41 ⟨u276, _, rfl⟩ rfl rfl ?_
        refine xild 42 ⟨u276, _, rfl⟩ rfl rfl ?_
        refine xcall 45 [.ref 66, .int _, .int _] [] hH36 ⟨u276, _, rfl⟩ rfl rfl rfl rfl rfl (k_277E hH36 P36 S36 (x := a.toInt.toNat) (y := b.toInt.toNat) (by omega) (by omega) (by show _ < V; omega) (by show _ < V; omega) (fun z42 hp42 hH42 P42 F42 S42 e42 o42 => ⟨_, rfl, ?_⟩))
        have lr42 := len_rm (show sOk V _ from S36.1.2.1) (a.toInt.toNat) (b.toInt.toNat)
        dsimp only at lr42
        refine xald 46 ⟨u276, _, rfl⟩ rfl rfl ?_
        refine xild 47 ⟨u276, _, rfl⟩ rfl rfl ?_
        refine xild 48 ⟨u276, _, rfl⟩ rfl rfl ?_
        refine xcall 51 [.ref 66, .int _, .int _] [.int _] hH42 ⟨u276, _, rfl⟩ rfl rfl rfl rfl rfl (k_277E hH42 P42 S42 (x := b.toInt.toNat) (y := c.toInt.toNat) (by omega) (by omega) (by show _ < V; omega) (by show _ < V; omega) (fun z48 hp48 hH48 P48 F48 S48 e48 o48 => ⟨_, rfl, ?_⟩))
        have lr48 := len_rm (show sOk V _ from S42.1.2.1) (b.toInt.toNat) (c.toInt.toNat)
        dsimp only at lr48
        refine xadd 52 _ ⟨u276, _, rfl⟩ rfl rfl (by omega) (by omega) (fun z51 h51 => ?_)
        refine xald 53 ⟨u276, _, rfl⟩ rfl rfl ?_
        refine xild 54 ⟨u276, _, rfl⟩ rfl rfl ?_
        refine xild 55 ⟨u276, _, rfl⟩ rfl rfl ?_
        refine xcall 58 [.ref 66, .int _, .int _] [.int _] hH48 ⟨u276, _, rfl⟩ rfl rfl rfl rfl rfl (k_277E hH48 P48 S48 (x := a.toInt.toNat) (y := c.toInt.toNat) (by omega) (by omega) (by show _ < V; omega) (by show _ < V; omega) (fun z55 hp55 hH55 P55 F55 S55 e55 o55 => ⟨_, rfl, ?_⟩))
        have lr55 := len_rm (show sOk V _ from S48.1.2.1) (a.toInt.toNat) (c.toInt.toNat)
        dsimp only at lr55
        refine xadd 59 _ ⟨u276, _, rfl⟩ rfl rfl (by omega) (by omega) (fun z58 h58 => ?_)
        refine xist2 61 ⟨u276, _, rfl⟩ rfl rfl ?_
        refine xald 62 ⟨u276, _, rfl⟩ rfl rfl ?_
        refine xild 63 ⟨u276, _, rfl⟩ rfl rfl ?_
        refine xild 64 ⟨u276, _, rfl⟩ rfl rfl ?_
        refine xild 65 ⟨u276, _, rfl⟩ rfl rfl ?_
        refine xcall 68 [.ref 66, .int _, .int _, .int _] [] hH55 ⟨u276, _, rfl⟩ rfl rfl rfl rfl rfl (k_ptR hH55 P55 S55.1 (x := a.toInt.toNat) (y := b.toInt.toNat) (z := c.toInt.toNat) (by omega) (by omega) (by omega) (by show _ < V; omega) (by show _ < V; omega) (by show _ < V; omega) (by omega) (by omega) (by omega) ⟨rmT_no (rmT_no (rmT_at hS.1.2.1 (by omega))), rmT_no (rmT_at S42.1.2.1 (by omega)), rmT_at S48.1.2.1 (by omega)⟩ (fun hp65 hH65 P65 F65 C65 => ⟨_, rfl, ?_⟩))
        have S65 := rfS_67 S55 F65 C65
        refine xild2 70 ⟨u276, _, rfl⟩ rfl rfl ?_
        exact xret ⟨u276, _, rfl⟩ rfl (hR _ hp65 hH65 P65 ((((((bFr_sub F4 (by decide)).trans (bFr_sub F36 (by decide))).trans (bFr_sub F42 (by decide))).trans (bFr_sub F48 (by decide))).trans (bFr_sub F55 (by decide))).trans (bFr_sub F65 (by decide))) (by rw [fCd_2 g4 nf, show rN hp65 66 7 = rN hp55 66 7 from r_fr F65 rfl, show rN hp55 66 7 = rN hp48 66 7 from r_fr F55 rfl, show rN hp48 66 7 = rN hp42 66 7 from r_fr F48 rfl, show rN hp42 66 7 = rN hp36 66 7 from r_fr F42 rfl, show rN hp36 66 7 = rN hp4 66 7 from r_fr F36 rfl, t4, g4]) (Or.inr ⟨fCd_2 g4 nf, S65, by unfold r3T; omega⟩))
      · rcases V27 with ⟨q1, -⟩ | ⟨q1, -⟩ <;> omega
    · refine xcst 22 (1) ⟨u276, _, rfl⟩ rfl (by decide) (fun z21 h21 => ?_)
      refine xgoto ⟨u276, _, rfl⟩ ?_
      refine xcst 27 (3) ⟨u276, _, rfl⟩ rfl (by decide) (fun z26 h26 => ?_)
      refine xcall 30 [.ref 66, .int _, .int _] [] hH4 ⟨u276, _, rfl⟩ rfl rfl rfl rfl rfl (k_failsE hH4 (by omega) (fun hp27 hH27 V27 => ⟨_, rfl, ?_⟩))
      refine xif_eq 33 ⟨u276, _, rfl⟩ rfl (fun c30 => ?_) (fun c30 => ?_)
      · rcases V27 with ⟨q1, -⟩ | ⟨q1, -⟩ <;> omega
      · refine xcst 34 (0) ⟨u276, _, rfl⟩ rfl (by decide) (fun z33 h33 => ?_)
        rcases V27 with ⟨q1, -⟩ | ⟨q1, U⟩
        · omega
        · have fr : T a.toInt.toNat b.toInt.toNat = c.toInt := by omega
          exact xret ⟨u276, _, rfl⟩ rfl (hR _ hp27 hH27 (P0_W (W := [(66, 7)]) (by decide) (rU_fr U rfl) P4) ((bFr_sub F4 (by decide)).trans (rU_fr U (by decide))) (by rw [U.1, fCd_3 g4 fr]; exact h26) (Or.inl ⟨by rw [fCd_3 g4 fr]; decide, rfS_W (W := [(66, 7)]) S4 (rU_fr U rfl) (fun _ => rfl) rfl rfl (fun _ => rfl) (fun _ => rfl)⟩))
end
