/-! ===== the reference: a triple removed, all that cover a pair, developed ===== -/
theorem k_273E {d V n : Nat} {h : Nat → sR} {sv : Option sR} {T : sT} {ty : Nat → Int} {hp : amH} {R : xQ} {t : Int32} (hH : bHk 84 bTT hp) (hP : P0 hp) (hS : rfS hp (V, T, ty) n h sv)
    (hR : ∀ (z : Int32) hp1, bHk 84 bTT hp1 → P0 hp1 → bFr wM hp hp1 → rN hp1 66 7 = gTri (trL T 225).length t.toInt → ((¬ gTri (trL T 225).length t.toInt = 0 ∧ rfS hp1 (V, T, ty) n h sv) ∨ (gTri (trL T 225).length t.toInt = 0 ∧ rfS hp1 (V, tkT T t.toInt.toNat, ty) (pM n + 1) (pH n h (V, T, ty)) sv ∧ z.toInt = (((trL (tkT T t.toInt.toNat) 225).length : Nat) : Int))) → R (.inl (some (.int z))) hp1) : xK (d + 3) 273 [.ref 66, .int t] hp R := by
  have hT : sOk V T := hS.1.2.1
  have l35 := trL_35 hT 225
  refine xin (M := am_m273) rfl rfl rfl ?_
  refine xald 1 ⟨u273, _, rfl⟩ rfl rfl ?_
  refine xild 2 ⟨u273, _, rfl⟩ rfl rfl ?_
  refine xcall 5 [.ref 66, .int _] [] hH ⟨u273, _, rfl⟩ rfl rfl rfl rfl rfl (k_gpt hH (V := V) (T := T) (rowOk_rd hS.1) (fun z2 hp2 hH2 F2 B2 L2 t2 o2 => ⟨_, rfl, ?_⟩))
  have S2 := rfS_W hS F2 (fun _ => rfl) rfl rfl (fun _ => rfl) (fun _ => rfl)
  have P2 : P0 hp2 := P0_W (W := (66, 7) :: bLT) (by decide) F2 hP
  refine xif_eq 8 ⟨u273, _, rfl⟩ rfl (fun c5 => ?_) (fun c5 => ?_)
  · have g2 : gTri (trL T 225).length t.toInt = 0 := by omega
    have k2 := gTri_0.mp g2
    obtain ⟨q1, q2, q3⟩ := trL_get 225 t.toInt.toNat (show t.toInt.toNat < (trL T 225).length by omega)
    obtain ⟨z, ez, x1, x2, x3⟩ := tr_pts hT q1
    have etk : tkT T t.toInt.toNat = sTake T ((trL T 225).getD t.toInt.toNat 0 / 15) ((trL T 225).getD t.toInt.toNat 0 % 15) z := by unfold tkT; rw [ez, Int.toNat_natCast]
    have lt := len_take hT ez
    rw [← etk] at lt
    refine xald 11 ⟨u273, _, rfl⟩ rfl rfl ?_
    refine xcall 14 [.ref 66] [] hH2 ⟨u273, _, rfl⟩ rfl rfl rfl rfl rfl (k_rmS hH2 P2 S2 (fun hp11 hH11 P11 F11 S11 => ⟨_, rfl, ?_⟩))
    refine xald 15 ⟨u273, _, rfl⟩ rfl rfl ?_
    refine xald 16 ⟨u273, _, rfl⟩ rfl rfl ?_
    refine xgetR 19 72 hH11 ⟨u273, _, rfl⟩ rfl rfl ?_
    refine xild 20 ⟨u273, _, rfl⟩ rfl rfl ?_
    refine xiald 21 (t).toInt.toNat hH11 ⟨u273, _, rfl⟩ rfl (by decide) rfl (by omega) (by omega) (fun z20 h20 => ?_)
    refine xald 22 ⟨u273, _, rfl⟩ rfl rfl ?_
    refine xgetR 25 73 hH11 ⟨u273, _, rfl⟩ rfl rfl ?_
    refine xild 26 ⟨u273, _, rfl⟩ rfl rfl ?_
    refine xiald 27 (t).toInt.toNat hH11 ⟨u273, _, rfl⟩ rfl (by decide) rfl (by omega) (by omega) (fun z26 h26 => ?_)
    refine xald 28 ⟨u273, _, rfl⟩ rfl rfl ?_
    refine xgetR 31 74 hH11 ⟨u273, _, rfl⟩ rfl rfl ?_
    refine xild 32 ⟨u273, _, rfl⟩ rfl rfl ?_
    refine xiald 33 (t).toInt.toNat hH11 ⟨u273, _, rfl⟩ rfl (by decide) rfl (by omega) (by omega) (fun z32 h32 => ?_)
    have L11 : rlN hp11 T 225 := rlN_fr L2 (r_fr F11 rfl) (fun _ => r_fr F11 rfl) (fun _ => r_fr F11 rfl) (fun _ => r_fr F11 rfl) (fun _ => r_fr F11 rfl)
    obtain ⟨o1, o2, o3, -⟩ := L11.2 t.toInt.toNat (by omega)
    have M11 := L11.1
    rw [ez] at o3
    refine xcall 36 [.ref 66, .int _, .int _, .int _] [] hH11 ⟨u273, _, rfl⟩ rfl rfl rfl rfl rfl (k_tkR hH11 P11 S11.1 (x := (trL T 225).getD t.toInt.toNat 0 / 15) (y := (trL T 225).getD t.toInt.toNat 0 % 15) (z := z) (h20.trans o1) (h26.trans o2) (h32.trans o3) ez (fun hp33 hH33 P33 F33 C33 => ⟨_, rfl, ?_⟩))
    have S33 := rfS_67 S11 F33 C33
    rw [← etk] at S33
    have m33 : rN hp33 66 12 = rN hp11 66 12 := r_fr F33 rfl
    refine xald 37 ⟨u273, _, rfl⟩ rfl rfl ?_
    refine xgetI 40 hH33 ⟨u273, _, rfl⟩ rfl rfl (fun z37 h37 => ?_)
    refine xcst 41 (1) ⟨u273, _, rfl⟩ rfl (by decide) (fun z40 h40 => ?_)
    refine xsub 42 _ ⟨u273, _, rfl⟩ rfl rfl (by omega) (by omega) (fun z41 h41 => ?_)
    exact xret ⟨u273, _, rfl⟩ rfl (hR _ hp33 hH33 P33 (((bFr_sub F2 (by decide)).trans (bFr_sub F11 (by decide))).trans (bFr_sub F33 (by decide))) (by rw [show rN hp33 66 7 = rN hp11 66 7 from r_fr F33 rfl, show rN hp11 66 7 = rN hp2 66 7 from r_fr F11 rfl]; exact t2) (Or.inr ⟨g2, S33, by omega⟩))
  · refine xcst 9 (0) ⟨u273, _, rfl⟩ rfl (by decide) (fun z8 h8 => ?_)
    exact xret ⟨u273, _, rfl⟩ rfl (hR _ hp2 hH2 P2 (bFr_sub F2 (by decide)) t2 (Or.inl ⟨by omega, S2⟩))
/-- a pair's triple taken, if there is one -/
def rmT (T : sT) (x y : Nat) : sT := if T x y = -1 then T else sTake T x y (T x y).toNat
theorem k_277E {d V n x y : Nat} {h : Nat → sR} {sv : Option sR} {T : sT} {ty : Nat → Int} {hp : amH} {R : xQ} {a b : Int32} (hH : bHk 84 bTT hp) (hP : P0 hp) (hS : rfS hp (V, T, ty) n h sv) (ha : a.toInt = (x : Int)) (hb : b.toInt = (y : Int)) (hx : x < V) (hy : y < V)
    (hR : ∀ (z : Int32) hp1, bHk 84 bTT hp1 → P0 hp1 → bFr [(67, 999)] hp hp1 → rfS hp1 (V, rmT T x y, ty) n h sv → z.toInt = cvT T x y → (z.toInt = 0 ∨ z.toInt = 1) → R (.inl (some (.int z))) hp1) : xK (d + 2) 277 [.ref 66, .int a, .int b] hp R := by
  have hT : sOk V T := hS.1.2.1
  have hV := hT.2.1
  refine xin (M := am_m277) rfl rfl rfl ?_
  refine xald 1 ⟨u277, _, rfl⟩ rfl rfl ?_
  refine xild 2 ⟨u277, _, rfl⟩ rfl rfl ?_
  refine xild 3 ⟨u277, _, rfl⟩ rfl rfl ?_
  refine xcall 6 [.ref 66, .int _, .int _] [] hH ⟨u277, _, rfl⟩ rfl rfl rfl rfl rfl (k_third hH (by omega) (by omega) (by omega) (by omega) (fun z3 h3 => ⟨_, rfl, ?_⟩))
  rw [show a.toInt.toNat = x by omega, show b.toInt.toNat = y by omega, (rowOk_rd hS.1).2.2.1 x y (by omega) (by omega)] at h3
  have h3 : z3.toInt = T x y := h3
  refine xist 7 ⟨u277, _, rfl⟩ rfl rfl ?_
  refine xild 8 ⟨u277, _, rfl⟩ rfl rfl ?_
  refine xcst 9 (-1) ⟨u277, _, rfl⟩ rfl (by decide) (fun z8 h8 => ?_)
  refine xcmp_ne 12 ⟨u277, _, rfl⟩ rfl (fun c9 => ?_) (fun c9 => ?_)
  · obtain ⟨w, ew, -⟩ := sOk_at hT (rfl : T x y = _) (by omega)
    refine xald 15 ⟨u277, _, rfl⟩ rfl rfl ?_
    refine xild 16 ⟨u277, _, rfl⟩ rfl rfl ?_
    refine xild 17 ⟨u277, _, rfl⟩ rfl rfl ?_
    refine xild 18 ⟨u277, _, rfl⟩ rfl rfl ?_
    refine xcall 21 [.ref 66, .int _, .int _, .int _] [] hH ⟨u277, _, rfl⟩ rfl rfl rfl rfl rfl (k_tkR hH hP hS.1 (x := x) (y := y) (z := w) ha hb (by omega) ew (fun hp18 hH18 P18 F18 C18 => ⟨_, rfl, ?_⟩))
    have S18 := rfS_67 hS F18 C18
    refine xcst 22 (1) ⟨u277, _, rfl⟩ rfl (by decide) (fun z21 h21 => ?_)
    exact xret ⟨u277, _, rfl⟩ rfl (hR _ hp18 hH18 P18 F18 (by rw [show rmT T x y = sTake T x y w by unfold rmT; rw [if_neg (by omega), ew, Int.toNat_natCast]]; exact S18) (by unfold cvT; rw [if_neg (by omega)]; exact h21) (Or.inr h21))
  · refine xcst 13 (0) ⟨u277, _, rfl⟩ rfl (by decide) (fun z12 h12 => ?_)
    exact xret ⟨u277, _, rfl⟩ rfl (hR _ hp hH hP (bFr.refl _ _) (by rw [show rmT T x y = T by unfold rmT; rw [if_pos (by omega)]]; exact hS) (by unfold cvT; rw [if_pos (by omega)]; exact h12) (Or.inl h12))
