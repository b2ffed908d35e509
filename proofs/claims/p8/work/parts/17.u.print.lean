/-! ===== ways by hand: what is printed ===== -/
def wOut : List (Nat × Nat) := [(66, 32), (82, 999)]
theorem b3_bit : ∀ x y z p : Fin 15, x < y → y < z → (2 ^ (x : Nat) + 2 ^ (y : Nat) + 2 ^ (z : Nat)).testBit p = (p == x || p == y || p == z) := by decide +kernel
theorem u335 : bUp 0 am_m335.1 = true := by decide +kernel
theorem u336 : bUp 0 am_m336.1 = true := by decide +kernel
theorem u337 : bUp 0 am_m337.1 = true := by decide +kernel
theorem k_write {d : Nat} {hp : amH} {R : xQ} {c : Int32} {o : Nat} (hH : bHk 84 bTT hp) (hP : P0 hp) (ho : rN hp 66 32 = (o : Int)) (ho2 : o < 30) (hR : ∀ hp1, bHk 84 bTT hp1 → P0 hp1 → bFr wOut hp hp1 → rN hp1 66 32 = ((o + 1 : Nat) : Int) → R (.inl none) hp1) : xK d 335 [.ref 66, .int c] hp R := by
  refine xin (M := am_m335) rfl rfl rfl ?_
  have b1 := aMin c
  have b2 := aMax c
  refine xald 1 ⟨u335, _, rfl⟩ rfl rfl ?_
  refine xgetR 4 82 hH ⟨u335, _, rfl⟩ rfl rfl ?_
  refine xald 5 ⟨u335, _, rfl⟩ rfl rfl ?_
  refine xgetI 8 hH ⟨u335, _, rfl⟩ rfl rfl (fun z5 h5 => ?_)
  refine xild 9 ⟨u335, _, rfl⟩ rfl rfl ?_
  refine xiast 10 o hH ⟨u335, _, rfl⟩ rfl (by decide) rfl (by omega) (by omega) (by omega) (by omega) (fun hp9 hH9 U9 => ?_)
  refine xald 11 ⟨u335, _, rfl⟩ rfl rfl ?_
  refine xdup 12 ⟨u335, _, rfl⟩ rfl rfl ?_
  refine xgetI 15 hH9 ⟨u335, _, rfl⟩ rfl rfl (fun z12 h12 => ?_)
  have o12 : z12.toInt = (o : Int) := by rw [h12, rU_ne U9 (by omega), ho]
  refine xcst 16 (1) ⟨u335, _, rfl⟩ rfl (by decide) (fun z15 h15 => ?_)
  refine xadd 17 _ ⟨u335, _, rfl⟩ rfl rfl (by omega) (by omega) (fun z16 h16 => ?_)
  refine xputI 20 hH9 ⟨u335, _, rfl⟩ rfl rfl ⟨rfl, rfl⟩ (by omega) (by omega) (fun hp17 hH17 U17 => ?_)
  have hF : bFr wOut hp hp17 := (rU_fr U9 (bIn_all (by decide) o)).trans (rU_fr U17 (by decide))
  exact xretV ⟨u335, _, rfl⟩ rfl (hR hp17 hH17 (P0_W (W := wOut) (by decide) hF hP) hF (by rw [U17.1]; omega))
theorem k_wp {d : Nat} {hp : amH} {R : xQ} {c : Int32} {o : Nat} (hH : bHk 84 bTT hp) (hP : P0 hp) (ho : rN hp 66 32 = (o : Int)) (ho2 : o < 30) (c0 : 0 ≤ c.toInt) (c1 : c.toInt < 15) (hR : ∀ hp1, bHk 84 bTT hp1 → P0 hp1 → bFr wOut hp hp1 → rN hp1 66 32 = ((o + 1 : Nat) : Int) → R (.inl none) hp1) : xK (d + 1) 336 [.ref 66, .int c] hp R := by
  refine xin (M := am_m336) rfl rfl rfl ?_
  refine xald 1 ⟨u336, _, rfl⟩ rfl rfl ?_
  refine xild 2 ⟨u336, _, rfl⟩ rfl rfl ?_
  refine xbip 4 (10) ⟨u336, _, rfl⟩ rfl (by decide) (fun z2 h2 => ?_)
  refine xcmp_ge 7 ⟨u336, _, rfl⟩ rfl (fun c4 => ?_) (fun c4 => ?_)
  · refine xbip 16 (97) ⟨u336, _, rfl⟩ rfl (by decide) (fun z14 h14 => ?_)
    refine xild 17 ⟨u336, _, rfl⟩ rfl rfl ?_
    refine xadd 18 _ ⟨u336, _, rfl⟩ rfl rfl (by omega) (by omega) (fun z17 h17 => ?_)
    refine xbip 20 (10) ⟨u336, _, rfl⟩ rfl (by decide) (fun z18 h18 => ?_)
    refine xsub 21 _ ⟨u336, _, rfl⟩ rfl rfl (by omega) (by omega) (fun z20 h20 => ?_)
    refine xcall 24 [.ref 66, .int _] [] hH ⟨u336, _, rfl⟩ rfl rfl rfl rfl rfl (k_write hH hP (o := o) ho (by omega) (fun hp21 hH21 hP21 F21 O21 => ⟨_, rfl, ?_⟩))
    exact xretV ⟨u336, _, rfl⟩ rfl (hR _ hH21 hP21 F21 O21)
  · refine xbip 9 (48) ⟨u336, _, rfl⟩ rfl (by decide) (fun z7 h7 => ?_)
    refine xild 10 ⟨u336, _, rfl⟩ rfl rfl ?_
    refine xadd 11 _ ⟨u336, _, rfl⟩ rfl rfl (by omega) (by omega) (fun z10 h10 => ?_)
    refine xgoto ⟨u336, _, rfl⟩ ?_
    refine xcall 24 [.ref 66, .int _] [] hH ⟨u336, _, rfl⟩ rfl rfl rfl rfl rfl (k_write hH hP (o := o) ho (by omega) (fun hp21 hH21 hP21 F21 O21 => ⟨_, rfl, ?_⟩))
    exact xretV ⟨u336, _, rfl⟩ rfl (hR _ hH21 hP21 F21 O21)
def Ptc (A : Nat → Nat × Nat × Nat) (p t c : Nat) : Prop := ∃ L : List Nat, L.Nodup ∧ (∀ w ∈ L, w < 15 ∧ ¬ w = p ∧ ∃ k, k < t ∧ prA A k p w) ∧ L.length = 2 * c
theorem Ptc_n {A : Nat → Nat × Nat × Nat} {p t c : Nat} (h : Ptc A p t c) : Ptc A p (t + 1) c := by
  obtain ⟨L, h1, h2, h3⟩ := h
  refine ⟨L, h1, fun w hw => ?_, h3⟩
  obtain ⟨g1, g2, k, g3, g4⟩ := h2 w hw
  exact ⟨g1, g2, k, by omega, g4⟩
theorem Ptc_7 {A : Nat → Nat × Nat × Nat} {p t c : Nat} (h : Ptc A p t c) : 2 * c ≤ 15 := by
  obtain ⟨L, h1, h2, h3⟩ := h
  have := nd_len L (List.range 15) h1 (fun w hw => List.mem_range.mpr (h2 w hw).1)
  rw [List.length_range] at this
  omega
theorem Ptc_s {T : Nat → Nat → Int} {q : Int} {m : Nat} {A : Nat → Nat × Nat × Nat} {p t c : Nat} (hq : q ≤ 15) (hS : Sys T q m A) (ht : t < m) (h : Ptc A p t c) (hp : p = (A t).1 ∨ p = (A t).2.1 ∨ p = (A t).2.2) : Ptc A p (t + 1) (c + 1) := by
  obtain ⟨L, h1, h2, h3⟩ := h
  have hs := hS.2.1 t ht
  have key : ∀ u v : Nat, ¬ u = p → ¬ v = p → ¬ u = v → prA A t p u → prA A t p v → Ptc A p (t + 1) (c + 1) := by
    intro u v hu hv huv pu pv
    have no : ∀ w, prA A t p w → ¬ w ∈ L := by
      intro w pw hw
      obtain ⟨-, -, k, hk, pk⟩ := h2 w hw
      have := hS.2.2.2.1 k t p w (by omega) ht pk pw
      omega
    refine ⟨u :: v :: L, List.nodup_cons.mpr ⟨fun hm => ?_, List.nodup_cons.mpr ⟨no v pv, h1⟩⟩, fun w hw => ?_, by simp only [List.length_cons]; omega⟩
    · rcases List.mem_cons.mp hm with z | z
      · exact huv z
      · exact no u pu z
    · rcases List.mem_cons.mp hw with rfl | hw
      · exact ⟨by obtain ⟨-, -, z⟩ := pu; omega, hu, t, by omega, pu⟩
      · rcases List.mem_cons.mp hw with rfl | hw
        · exact ⟨by obtain ⟨-, -, z⟩ := pv; omega, hv, t, by omega, pv⟩
        · obtain ⟨g1, g2, k, g3, g4⟩ := h2 w hw
          exact ⟨g1, g2, k, by omega, g4⟩
  rcases hp with rfl | rfl | rfl
  · exact key (A t).2.1 (A t).2.2 (by omega) (by omega) (by omega) ⟨by omega, by omega, by omega⟩ ⟨by omega, by omega, by omega⟩
  · exact key (A t).1 (A t).2.2 (by omega) (by omega) (by omega) ⟨by omega, by omega, by omega⟩ ⟨by omega, by omega, by omega⟩
  · exact key (A t).1 (A t).2.1 (by omega) (by omega) (by omega) ⟨by omega, by omega, by omega⟩ ⟨by omega, by omega, by omega⟩
theorem l337 {hp0 : amH} {x : Int32} {T : Nat → Nat → Int} {q : Int} {m : Nat} {A : Nat → Nat × Nat × Nat} (q15 : q ≤ 15) (hS : Sys T q m A) (x0 : 0 ≤ x.toInt) (x1 : x.toInt < 15) :
    ∀ (j : Nat) (t : Int32) (hp : amH), bHk 84 bTT hp → P0 hp → bFr wM hp0 hp → Arr hp m A → ∀ c : Nat, t.toInt + (j : Int) = 36 → 0 ≤ t.toInt → Ptc A x.toInt.toNat t.toInt.toNat c → ((c = 0 ∧ rN hp 66 32 = 0) ∨ (1 ≤ c ∧ rN hp 66 32 = 4 * (c : Int) - 1)) → xV 9 am_m337 21 [some (.ref 66), some (.int x), some (.int t)] [] hp (rPub hp0) := by
  intro j
  induction j using Nat.strongRecOn with
  | ind j ih =>
    intro t hp hH hP hF hA c hj t0 hc ho
    have am := hA.1
    have m35 := hS.1
    have j58 : t.toInt < (m : Int) → (x.toInt.toNat = (A t.toInt.toNat).1 ∨ x.toInt.toNat = (A t.toInt.toNat).2.1 ∨ x.toInt.toNat = (A t.toInt.toNat).2.2) → ∀ (o1 : Nat) (hp1 : amH), bHk 84 bTT hp1 → P0 hp1 → bFr wM hp0 hp1 → Arr hp1 m A → o1 = 4 * c → rN hp1 66 32 = (o1 : Int) → xV 9 am_m337 58 [some (.ref 66), some (.int x), some (.int t)] [] hp1 (rPub hp0) := by
      intro ht hpt o1 hp1 hH1 hP1 hF1 hA1 ho2 ho1
      have hc2 := Ptc_s q15 hS (t := t.toInt.toNat) (by omega) hc hpt
      have h7 := Ptc_7 hc2
      obtain ⟨a1, a2, a3, a4⟩ := hA1.2 t.toInt.toNat (by omega)
      have hs3 := hS.2.1 t.toInt.toNat (by omega)
      refine xald 59 ⟨u337, _, rfl⟩ rfl rfl ?_
      refine xald 60 ⟨u337, _, rfl⟩ rfl rfl ?_
      refine xgetR 63 72 hH1 ⟨u337, _, rfl⟩ rfl rfl ?_
      refine xild 64 ⟨u337, _, rfl⟩ rfl rfl ?_
      refine xiald 65 (t).toInt.toNat hH1 ⟨u337, _, rfl⟩ rfl (by decide) rfl (by omega) (by omega) (fun z64 h64 => ?_)
      refine xcall 68 [.ref 66, .int _] [] hH1 ⟨u337, _, rfl⟩ rfl rfl rfl rfl rfl (k_wp hH1 hP1 (o := o1) ho1 (by omega) (by omega) (by omega) (fun hp65 hH65 hP65 F65 O65 => ⟨_, rfl, ?_⟩))
      refine xald 69 ⟨u337, _, rfl⟩ rfl rfl ?_
      refine xald 70 ⟨u337, _, rfl⟩ rfl rfl ?_
      refine xgetR 73 73 hH65 ⟨u337, _, rfl⟩ rfl rfl ?_
      refine xild 74 ⟨u337, _, rfl⟩ rfl rfl ?_
      have hA65 := Arr_W (W := wOut) (by decide) F65 hA1
      obtain ⟨a1, a2, a3, a4⟩ := hA65.2 t.toInt.toNat (by omega)
      refine xiald 75 (t).toInt.toNat hH65 ⟨u337, _, rfl⟩ rfl (by decide) rfl (by omega) (by omega) (fun z74 h74 => ?_)
      refine xcall 78 [.ref 66, .int _] [] hH65 ⟨u337, _, rfl⟩ rfl rfl rfl rfl rfl (k_wp hH65 hP65 (o := (o1 + 1)) O65 (by omega) (by omega) (by omega) (fun hp75 hH75 hP75 F75 O75 => ⟨_, rfl, ?_⟩))
      refine xald 79 ⟨u337, _, rfl⟩ rfl rfl ?_
      refine xald 80 ⟨u337, _, rfl⟩ rfl rfl ?_
      refine xgetR 83 74 hH75 ⟨u337, _, rfl⟩ rfl rfl ?_
      refine xild 84 ⟨u337, _, rfl⟩ rfl rfl ?_
      have hA75 := Arr_W (W := wOut) (by decide) F75 hA65
      obtain ⟨a1, a2, a3, a4⟩ := hA75.2 t.toInt.toNat (by omega)
      refine xiald 85 (t).toInt.toNat hH75 ⟨u337, _, rfl⟩ rfl (by decide) rfl (by omega) (by omega) (fun z84 h84 => ?_)
      refine xcall 88 [.ref 66, .int _] [] hH75 ⟨u337, _, rfl⟩ rfl rfl rfl rfl rfl (k_wp hH75 hP75 (o := (o1 + 1 + 1)) O75 (by omega) (by omega) (by omega) (fun hp85 hH85 hP85 F85 O85 => ⟨_, rfl, ?_⟩))
      refine xinc 91 (1) ⟨u337, _, rfl⟩ rfl rfl rfl (by decide) (by omega) (by omega) (fun z88 h88 => ?_)
      refine xgoto ⟨u337, _, rfl⟩ ?_
      refine ih (j - 1) (by omega) _ hp85 hH85 hP85 (hF1.trans ((bFr_sub F65 (by decide)).trans ((bFr_sub F75 (by decide)).trans (bFr_sub F85 (by decide))))) (Arr_W (W := wOut) (by decide) F85 (Arr_W (W := wOut) (by decide) F75 (Arr_W (W := wOut) (by decide) F65 hA1))) (c + 1) (by omega) (by omega) ?_ (Or.inr ⟨by omega, by rw [O85]; omega⟩)
      rw [show z88.toInt.toNat = t.toInt.toNat + 1 by omega]
      exact hc2
    refine xild 22 ⟨u337, _, rfl⟩ rfl rfl ?_
    refine xald 23 ⟨u337, _, rfl⟩ rfl rfl ?_
    refine xgetI 26 hH ⟨u337, _, rfl⟩ rfl rfl (fun z23 h23 => ?_)
    refine xcmp_ge 29 ⟨u337, _, rfl⟩ rfl (fun c26 => ?_) (fun c26 => ?_)
    · refine xald 95 ⟨u337, _, rfl⟩ rfl rfl ?_
      refine xgetI 98 hH ⟨u337, _, rfl⟩ rfl rfl (fun z95 h95 => ?_)
      exact xret ⟨u337, _, rfl⟩ rfl ⟨⟨_, rfl⟩, hH, hP, hF⟩
    · refine xald 30 ⟨u337, _, rfl⟩ rfl rfl ?_
      refine xgetR 33 75 hH ⟨u337, _, rfl⟩ rfl rfl ?_
      refine xild 34 ⟨u337, _, rfl⟩ rfl rfl ?_
      refine xiald 35 (t).toInt.toNat hH ⟨u337, _, rfl⟩ rfl (by decide) rfl (by omega) (by omega) (fun z34 h34 => ?_)
      refine xild 36 ⟨u337, _, rfl⟩ rfl rfl ?_
      refine xshr 37 ⟨u337, _, rfl⟩ rfl ?_
      refine xcst 38 (1) ⟨u337, _, rfl⟩ rfl (by decide) (fun z37 h37 => ?_)
      refine xand 39 ⟨u337, _, rfl⟩ rfl ?_
      obtain ⟨a1, a2, a3, a4⟩ := hA.2 t.toInt.toNat (by omega)
      have hs3 := hS.2.1 t.toInt.toNat (by omega)
      have hb := msk_b3 ⟨(A t.toInt.toNat).1, by omega⟩ ⟨(A t.toInt.toNat).2.1, by omega⟩ ⟨(A t.toInt.toNat).2.2, by omega⟩ hs3.1 hs3.2.1
      have hbit := i_bit (x := z34) (c := x) (o := z37) (a := 2 ^ (A t.toInt.toNat).1 + 2 ^ (A t.toInt.toNat).2.1 + 2 ^ (A t.toInt.toNat).2.2) (n := x.toInt.toNat) (h34.trans a4) (by have := hb.2.2; unfold b3 at this; dsimp only at this; omega) (by omega) (by omega) h37
      have hbb := b3_bit ⟨(A t.toInt.toNat).1, by omega⟩ ⟨(A t.toInt.toNat).2.1, by omega⟩ ⟨(A t.toInt.toNat).2.2, by omega⟩ ⟨x.toInt.toNat, by omega⟩ hs3.1 hs3.2.1
      dsimp only at hbb
      rw [hbb] at hbit
      have h7 := Ptc_7 hc
      refine xif_ne 42 ⟨u337, _, rfl⟩ rfl (fun c39 => ?_) (fun c39 => ?_)
      · have hpt : x.toInt.toNat = (A t.toInt.toNat).1 ∨ x.toInt.toNat = (A t.toInt.toNat).2.1 ∨ x.toInt.toNat = (A t.toInt.toNat).2.2 := by
          refine Classical.byContradiction (fun hn => c39 ?_)
          rw [hbit, if_neg]
          simp only [Bool.or_eq_true, beq_iff_eq, Fin.mk.injEq]
          omega
        refine xald 46 ⟨u337, _, rfl⟩ rfl rfl ?_
        refine xgetI 49 hH ⟨u337, _, rfl⟩ rfl rfl (fun z46 h46 => ?_)
        refine xif_le 52 ⟨u337, _, rfl⟩ rfl (fun c49 => ?_) (fun c49 => ?_)
        · exact j58 (by omega) hpt (4 * c) hp hH hP hF hA (by omega) (by omega)
        · refine xald 53 ⟨u337, _, rfl⟩ rfl rfl ?_
          refine xbip 55 (32) ⟨u337, _, rfl⟩ rfl (by decide) (fun z53 h53 => ?_)
          refine xcall 58 [.ref 66, .int _] [] hH ⟨u337, _, rfl⟩ rfl rfl rfl rfl rfl (k_write hH hP (o := 4 * c - 1) (by omega) (by omega) (fun hp55 hH55 hP55 F55 O55 => ⟨_, rfl, ?_⟩))
          exact j58 (by omega) hpt (4 * c) hp55 hH55 hP55 (hF.trans (bFr_sub F55 (by decide))) (Arr_W (W := wOut) (by decide) F55 hA) (by omega) (by rw [O55]; omega)
      · refine xgoto ⟨u337, _, rfl⟩ ?_
        refine xinc 91 (1) ⟨u337, _, rfl⟩ rfl rfl rfl (by decide) (by omega) (by omega) (fun z88 h88 => ?_)
        refine xgoto ⟨u337, _, rfl⟩ ?_
        refine ih (j - 1) (by omega) _ hp hH hP hF hA c (by omega) (by omega) ?_ ho
        rw [show z88.toInt.toNat = t.toInt.toNat + 1 by omega]
        exact Ptc_n hc
theorem p337_s : bSem amGG P0 84 bTT 337 (sPub 1 9) := by
  refine pub1 (N := am_m337) rfl (fun x hp hH hP => ?_)
  refine xin (M := am_m337) rfl rfl rfl ?_
  have G := bFr.refl wM hp
  have q1 := hP.1.1
  have q2 := hP.1.2.1
  refine xald 1 ⟨u337, _, rfl⟩ rfl rfl ?_
  refine xild 2 ⟨u337, _, rfl⟩ rfl rfl ?_
  refine xcall 5 [.ref 66, .int _] [] hH ⟨u337, _, rfl⟩ rfl rfl rfl rfl rfl (k_nopt hH hP (fun z2 hp2 hH2 hP2 F2 h2 => ⟨_, rfl, ?_⟩))
  have G2 := G.trans (bFr_sub (W1 := wM) F2 (by decide))
  have e2 : rN hp2 67 0 = rN hp 67 0 := r_fr F2 rfl
  have t2 : ∀ u v, tT hp2 u v = tT hp u v := fun u v => r_fr F2 rfl
  refine xif_eq 8 ⟨u337, _, rfl⟩ rfl (fun c5 => ?_) (fun c5 => ?_)
  · refine xald 11 ⟨u337, _, rfl⟩ rfl rfl ?_
    refine xcall 14 [.ref 66] [] hH2 ⟨u337, _, rfl⟩ rfl rfl rfl rfl rfl (k_lst hH2 hP2 (fun hp11 m hH11 hP11 F11 hL11 => ⟨_, rfl, ?_⟩))
    have G11 := G2.trans (bFr_sub (W1 := wM) F11 (by decide))
    obtain ⟨A, hA, hS⟩ := Lst_A hP11.1 hL11
    have e11 : rN hp11 67 0 = rN hp2 67 0 := r_fr F11 rfl
    have t11 : ∀ u v, tT hp11 u v = tT hp2 u v := fun u v => r_fr F11 rfl
    refine xald 15 ⟨u337, _, rfl⟩ rfl rfl ?_
    refine xcst 16 (0) ⟨u337, _, rfl⟩ rfl (by decide) (fun z15 h15 => ?_)
    refine xputI 19 hH11 ⟨u337, _, rfl⟩ rfl rfl ⟨rfl, rfl⟩ (by omega) (by omega) (fun hp16 hH16 U16 => ?_)
    have G16 := G11.trans (rU_fr U16 (W := wM) (by decide))
    have hP16 := P0_W (W := [(66, 32)]) (by decide) (rU_fr U16 rfl) hP11
    have e16 : rN hp16 67 0 = rN hp11 67 0 := rU_ne U16 (by omega)
    refine xcst 20 (0) ⟨u337, _, rfl⟩ rfl (by decide) (fun z19 h19 => ?_)
    refine xist 21 ⟨u337, _, rfl⟩ rfl rfl ?_
    exact l337 (q := rN hp11 67 0) (by omega) hS (by omega) (by omega) 36 _ hp16 hH16 hP16 G16 (Arr_W (W := [(66, 32)]) (by decide) (rU_fr U16 rfl) hA) 0 (by omega) (by omega) ⟨[], List.nodup_nil, (fun w hw => by cases hw), rfl⟩ (Or.inl ⟨rfl, by rw [U16.1]; omega⟩)
  · refine xcst 9 (0) ⟨u337, _, rfl⟩ rfl (by decide) (fun z8 h8 => ?_)
    exact xret ⟨u337, _, rfl⟩ rfl ⟨⟨_, rfl⟩, hH2, hP2, G2⟩
