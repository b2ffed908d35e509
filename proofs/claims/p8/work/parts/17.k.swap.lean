/-! ===== ways by hand: swap, turn ===== -/
theorem k_swapped {d : Nat} {hp : amH} {R : xQ} {p a b : Int32} (hR : ∀ z : Int32, (z.toInt = if p.toInt = a.toInt then b.toInt else if p.toInt = b.toInt then a.toInt else p.toInt) → R (.inl (some (.int z))) hp) : xK d 280 [.int p, .int a, .int b] hp R := by
  refine xin (M := am_m280) rfl rfl rfl ?_
  refine xild 1 ⟨u280, _, rfl⟩ rfl rfl ?_
  refine xild 2 ⟨u280, _, rfl⟩ rfl rfl ?_
  refine xcmp_ne 5 ⟨u280, _, rfl⟩ rfl (fun c2 => ?_) (fun c2 => ?_)
  · refine xild 10 ⟨u280, _, rfl⟩ rfl rfl ?_
    refine xild 11 ⟨u280, _, rfl⟩ rfl rfl ?_
    refine xcmp_ne 14 ⟨u280, _, rfl⟩ rfl (fun c11 => ?_) (fun c11 => ?_)
    · refine xild 19 ⟨u280, _, rfl⟩ rfl rfl ?_
      exact xret ⟨u280, _, rfl⟩ rfl (hR _ (by rw [if_neg (by omega), if_neg (by omega)]))
    · refine xild 15 ⟨u280, _, rfl⟩ rfl rfl ?_
      refine xgoto ⟨u280, _, rfl⟩ ?_
      exact xret ⟨u280, _, rfl⟩ rfl (hR _ (by rw [if_neg (by omega), if_pos (by omega)]))
  · refine xild 6 ⟨u280, _, rfl⟩ rfl rfl ?_
    refine xgoto ⟨u280, _, rfl⟩ ?_
    exact xret ⟨u280, _, rfl⟩ rfl (hR _ (by rw [if_pos (by omega)]))
theorem xremG {M : amM} {pc a b d : Nat} {L : List (Option Value)} {st : List Value} {hp : amH} {Q : xQ} (q : Nat) {x y : Int32} (h : xI M pc .irem a b) (e : q = pc + 1) (hy : 0 < y.toInt) (hw : ∀ z : Int32, z.toInt = x.toInt.tmod y.toInt → xV d M q L (.int z :: st) hp Q) : xV d M pc L (.int y :: .int x :: st) hp Q := by
  have hy0 : ¬ y = 0 := fun z => by rw [z] at hy; exact absurd hy (by decide)
  refine xstep h (fun cl hl => ⟨cl, ?_, hl⟩) (hw (x - x / y * y) (rem_toInt _ _))
  subst e
  simp [amDo, amStep, amDiv, hy0]
def bv (k p : Int) : Int := if k.tmod p < 0 then k.tmod p + p else k.tmod p
theorem bv_in {k p : Int} (hp : 0 < p) : 0 ≤ bv k p ∧ bv k p < p := by
  have h1 : (k.tmod p).natAbs < p.natAbs := by
    rw [Int.natAbs_tmod]
    exact Nat.mod_lt _ (by omega)
  unfold bv
  split <;> omega
theorem u234 : bUp 0 am_m234.1 = true := by decide +kernel
theorem k_by {d : Nat} {hp : amH} {R : xQ} {k : Int32} (hH : bHk 84 bTT hp) (hP : P0 hp) (hR : ∀ z : Int32, z.toInt = bv k.toInt (rN hp 67 0) → R (.inl (some (.int z))) hp) : xK (d + 1) 234 [.ref 66, .int k] hp R := by
  refine xin (M := am_m234) rfl rfl rfl ?_
  have q1 := hP.1.1
  have q2 := hP.1.2.1
  have hb := bv_in (k := k.toInt) (p := rN hp 67 0) (by omega)
  refine xild 1 ⟨u234, _, rfl⟩ rfl rfl ?_
  refine xald 2 ⟨u234, _, rfl⟩ rfl rfl ?_
  refine xcall 5 [.ref 66] [.int _] hH ⟨u234, _, rfl⟩ rfl rfl rfl rfl rfl (k_points hH (fun z2 h2 => ⟨_, rfl, ?_⟩))
  refine xremG 6 ⟨u234, _, rfl⟩ rfl (by omega) (fun z5 h5 => ?_)
  rw [h2] at h5
  have hlt : (k.toInt.tmod (rN hp 67 0)).natAbs < (rN hp 67 0).natAbs := by
    rw [Int.natAbs_tmod]
    exact Nat.mod_lt _ (by omega)
  refine xist 7 ⟨u234, _, rfl⟩ rfl rfl ?_
  refine xild 8 ⟨u234, _, rfl⟩ rfl rfl ?_
  refine xif_ge 11 ⟨u234, _, rfl⟩ rfl (fun c8 => ?_) (fun c8 => ?_)
  · refine xild 21 ⟨u234, _, rfl⟩ rfl rfl ?_
    exact xret ⟨u234, _, rfl⟩ rfl (hR _ (by unfold bv; rw [if_neg (by omega)]; exact h5))
  · refine xild 12 ⟨u234, _, rfl⟩ rfl rfl ?_
    refine xald 13 ⟨u234, _, rfl⟩ rfl rfl ?_
    refine xcall 16 [.ref 66] [.int _] hH ⟨u234, _, rfl⟩ rfl rfl rfl rfl rfl (k_points hH (fun z13 h13 => ⟨_, rfl, ?_⟩))
    refine xadd 17 _ ⟨u234, _, rfl⟩ rfl rfl (by omega) (by omega) (fun z16 h16 => ?_)
    refine xgoto ⟨u234, _, rfl⟩ ?_
    exact xret ⟨u234, _, rfl⟩ rfl (hR _ (by unfold bv; rw [if_pos (by omega)]; omega))
theorem pt279 {hp0 : amH} {t : Nat → Nat → Int} {p : Int} {m : Nat} {A : Nat → Nat × Nat × Nat} (p3 : 3 ≤ p) (p15 : p ≤ 15) (hS : Sys t p m A) {s : Nat → Nat} (hs : ∀ x : Nat, (x : Int) < p → (s x : Int) < p) (hinj : ∀ x y : Nat, (x : Int) < p → (y : Int) < p → s x = s y → x = y) {x y : Int32} {R : xQ} (hval : ∀ q : Nat, (q : Int) < p → (s q : Int) = if (q : Int) = x.toInt then y.toInt else if (q : Int) = y.toInt then x.toInt else q) (hQ : ∀ (r : Int32) hp, bHk 84 bTT hp → P0 hp → bFr [(67, 999)] hp0 hp → R (.inl (some (.int r))) hp) : ∀ (j : Nat) (n k : Int32) (v5 v6 v7 : Option Value) hp, bHk 84 bTT hp → P0 hp → bFr [(67, 999)] hp0 hp → rN hp 67 0 = p → Arr hp m A → Img s A k.toInt.toNat hp → k.toInt + (j : Int) = 36 → 0 ≤ k.toInt → k.toInt ≤ (m : Int) → 0 ≤ n.toInt → n.toInt ≤ k.toInt → xV 9 am_m279 83 [some (.ref 66), some (.int x), some (.int y), some (.int n), some (.int k), v5, v6, v7] [] hp R := by
  intro j
  induction j using Nat.strongRecOn with
  | ind j ih =>
    intro n k v5 v6 v7 hp hH hP hF he hA hI hj k0 k1 n0 n1
    have am := hA.1
    have m35 := hS.1
    refine xild2 85 ⟨u279, _, rfl⟩ rfl rfl ?_
    refine xald 86 ⟨u279, _, rfl⟩ rfl rfl ?_
    refine xgetI 89 hH ⟨u279, _, rfl⟩ rfl rfl (fun z86 h86 => ?_)
    refine xcmp_ge 92 ⟨u279, _, rfl⟩ rfl (fun c89 => ?_) (fun c89 => ?_)
    · refine xild 179 ⟨u279, _, rfl⟩ rfl rfl ?_
      exact xret ⟨u279, _, rfl⟩ rfl (hQ _ hp hH hP hF)
    · obtain ⟨a1, a2, a3, a4⟩ := hA.2 k.toInt.toNat (by omega)
      have hs3 := hS.2.1 k.toInt.toNat (by omega)
      have hf := Img_f p15 hS hs hinj (i := k.toInt.toNat) (by omega) hI
      have r1 := hs (A k.toInt.toNat).1 (by omega)
      have r21 := hs (A k.toInt.toNat).2.1 (by omega)
      have r22 := hs (A k.toInt.toNat).2.2 (by omega)
      have d12 : ¬ s (A k.toInt.toNat).1 = s (A k.toInt.toNat).2.1 := fun z => by have := hinj _ _ (by omega) (by omega) z; omega
      have d23 : ¬ s (A k.toInt.toNat).2.1 = s (A k.toInt.toNat).2.2 := fun z => by have := hinj _ _ (by omega) (by omega) z; omega
      have d13 : ¬ s (A k.toInt.toNat).1 = s (A k.toInt.toNat).2.2 := fun z => by have := hinj _ _ (by omega) (by omega) z; omega
      refine xald 93 ⟨u279, _, rfl⟩ rfl rfl ?_
      refine xgetR 96 72 hH ⟨u279, _, rfl⟩ rfl rfl ?_
      refine xild2 98 ⟨u279, _, rfl⟩ rfl rfl ?_
      refine xiald 99 (k).toInt.toNat hH ⟨u279, _, rfl⟩ rfl (by decide) rfl (by omega) (by omega) (fun z98 h98 => ?_)
      refine xild 100 ⟨u279, _, rfl⟩ rfl rfl ?_
      refine xild 101 ⟨u279, _, rfl⟩ rfl rfl ?_
      refine xcallS 104 [.int _, .int _, .int _] [] hH ⟨u279, _, rfl⟩ rfl rfl rfl rfl rfl (k_swapped (fun z101 h101 => ⟨_, rfl, ?_⟩))
      have i0 : z101.toInt = (s (A k.toInt.toNat).1 : Int) := by
        have := hval (A k.toInt.toNat).1 (by omega)
        rw [h101, this, show z98.toInt = ((A k.toInt.toNat).1 : Int) by omega]
      refine xist2 106 ⟨u279, _, rfl⟩ rfl rfl ?_
      refine xald 107 ⟨u279, _, rfl⟩ rfl rfl ?_
      refine xgetR 110 73 hH ⟨u279, _, rfl⟩ rfl rfl ?_
      refine xild2 112 ⟨u279, _, rfl⟩ rfl rfl ?_
      refine xiald 113 (k).toInt.toNat hH ⟨u279, _, rfl⟩ rfl (by decide) rfl (by omega) (by omega) (fun z112 h112 => ?_)
      refine xild 114 ⟨u279, _, rfl⟩ rfl rfl ?_
      refine xild 115 ⟨u279, _, rfl⟩ rfl rfl ?_
      refine xcallS 118 [.int _, .int _, .int _] [] hH ⟨u279, _, rfl⟩ rfl rfl rfl rfl rfl (k_swapped (fun z115 h115 => ⟨_, rfl, ?_⟩))
      have i1 : z115.toInt = (s (A k.toInt.toNat).2.1 : Int) := by
        have := hval (A k.toInt.toNat).2.1 (by omega)
        rw [h115, this, show z112.toInt = ((A k.toInt.toNat).2.1 : Int) by omega]
      refine xist2 120 ⟨u279, _, rfl⟩ rfl rfl ?_
      refine xald 121 ⟨u279, _, rfl⟩ rfl rfl ?_
      refine xgetR 124 74 hH ⟨u279, _, rfl⟩ rfl rfl ?_
      refine xild2 126 ⟨u279, _, rfl⟩ rfl rfl ?_
      refine xiald 127 (k).toInt.toNat hH ⟨u279, _, rfl⟩ rfl (by decide) rfl (by omega) (by omega) (fun z126 h126 => ?_)
      refine xild 128 ⟨u279, _, rfl⟩ rfl rfl ?_
      refine xild 129 ⟨u279, _, rfl⟩ rfl rfl ?_
      refine xcallS 132 [.int _, .int _, .int _] [] hH ⟨u279, _, rfl⟩ rfl rfl rfl rfl rfl (k_swapped (fun z129 h129 => ⟨_, rfl, ?_⟩))
      have i2 : z129.toInt = (s (A k.toInt.toNat).2.2 : Int) := by
        have := hval (A k.toInt.toNat).2.2 (by omega)
        rw [h129, this, show z126.toInt = ((A k.toInt.toNat).2.2 : Int) by omega]
      refine xist2 134 ⟨u279, _, rfl⟩ rfl rfl ?_
      refine xald 135 ⟨u279, _, rfl⟩ rfl rfl ?_
      refine xild2 137 ⟨u279, _, rfl⟩ rfl rfl ?_
      refine xild2 139 ⟨u279, _, rfl⟩ rfl rfl ?_
      refine xild2 141 ⟨u279, _, rfl⟩ rfl rfl ?_
      refine xcall 144 [.ref 66, .int _, .int _, .int _] [] hH ⟨u279, _, rfl⟩ rfl rfl rfl rfl rfl (k_put hH hP (by omega) (by omega) (by omega) (by omega) (by omega) (by omega) (by omega) (by omega) (by omega) (by rw [show z101.toInt.toNat = s (A k.toInt.toNat).1 by omega, show z115.toInt.toNat = s (A k.toInt.toNat).2.1 by omega, show z129.toInt.toNat = s (A k.toInt.toNat).2.2 by omega]; exact hf) (fun hp141 hH141 hP141 F141 E141 T141 => ⟨_, rfl, ?_⟩))
      have e141 : rN hp141 67 0 = rN hp 67 0 := E141 0 (by omega)
      have I1 := Img_s hI (i := k.toInt.toNat) (hp1 := hp141) (f := fun u v => z101.toInt + z115.toInt + z129.toInt - u - v) (fun u v hu hv => by
        rw [T141 u v hu hv, show z101.toInt.toNat = s (A k.toInt.toNat).1 by omega, show z115.toInt.toNat = s (A k.toInt.toNat).2.1 by omega, show z129.toInt.toNat = s (A k.toInt.toNat).2.2 by omega])
      refine xild 145 ⟨u279, _, rfl⟩ rfl rfl ?_
      refine xald 146 ⟨u279, _, rfl⟩ rfl rfl ?_
      refine xgetR 149 68 hH141 ⟨u279, _, rfl⟩ rfl rfl ?_
      refine xcst 150 (4) ⟨u279, _, rfl⟩ rfl (by decide) (fun z149 h149 => ?_)
      refine xbip 152 (15) ⟨u279, _, rfl⟩ rfl (by decide) (fun z150 h150 => ?_)
      refine xild2 154 ⟨u279, _, rfl⟩ rfl rfl ?_
      refine xmul 155 (15 * Int32.toInt z101) ⟨u279, _, rfl⟩ rfl (by rw [h150]) (by omega) (by omega) (fun z154 h154 => ?_)
      refine xadd 156 _ ⟨u279, _, rfl⟩ rfl rfl (by omega) (by omega) (fun z155 h155 => ?_)
      refine xild2 158 ⟨u279, _, rfl⟩ rfl rfl ?_
      refine xadd 159 _ ⟨u279, _, rfl⟩ rfl rfl (by omega) (by omega) (fun z158 h158 => ?_)
      refine xiald 160 (z158).toInt.toNat hH141 ⟨u279, _, rfl⟩ rfl (by decide) rfl (by omega) (by omega) (fun z159 h159 => ?_)
      refine xild2 162 ⟨u279, _, rfl⟩ rfl rfl ?_
      refine xcmp_ne 165 ⟨u279, _, rfl⟩ rfl (fun c162 => ?_) (fun c162 => ?_)
      · refine xcst 170 (1) ⟨u279, _, rfl⟩ rfl (by decide) (fun z169 h169 => ?_)
        refine xadd 171 _ ⟨u279, _, rfl⟩ rfl rfl (by omega) (by omega) (fun z170 h170 => ?_)
        refine xist 172 ⟨u279, _, rfl⟩ rfl rfl ?_
        refine xinc 175 (1) ⟨u279, _, rfl⟩ rfl rfl rfl (by decide) (by omega) (by omega) (fun z172 h172 => ?_)
        refine xgoto ⟨u279, _, rfl⟩ ?_
        exact ih (j - 1) (by omega) _ _ _ _ _ _ hH141 hP141 (hF.trans (bFr_sub F141 (by decide))) (e141.trans he) (Arr_W (W := [(67, 999)]) (by decide) F141 hA) (by rw [show k.toInt.toNat + 1 = (k.toInt + 1).toNat by omega] at I1; rwa [show Int32.toInt z172 = k.toInt + 1 by omega]) (by omega) (by omega) (by omega) (by omega) (by omega)
      · refine xcst 166 (0) ⟨u279, _, rfl⟩ rfl (by decide) (fun z165 h165 => ?_)
        refine xgoto ⟨u279, _, rfl⟩ ?_
        refine xadd 171 _ ⟨u279, _, rfl⟩ rfl rfl (by omega) (by omega) (fun z170 h170 => ?_)
        refine xist 172 ⟨u279, _, rfl⟩ rfl rfl ?_
        refine xinc 175 (1) ⟨u279, _, rfl⟩ rfl rfl rfl (by decide) (by omega) (by omega) (fun z172 h172 => ?_)
        refine xgoto ⟨u279, _, rfl⟩ ?_
        exact ih (j - 1) (by omega) _ _ _ _ _ _ hH141 hP141 (hF.trans (bFr_sub F141 (by decide))) (e141.trans he) (Arr_W (W := [(67, 999)]) (by decide) F141 hA) (by rw [show k.toInt.toNat + 1 = (k.toInt + 1).toNat by omega] at I1; rwa [show Int32.toInt z172 = k.toInt + 1 by omega]) (by omega) (by omega) (by omega) (by omega) (by omega)
theorem pt281 {hp0 : amH} {t : Nat → Nat → Int} {p : Int} {m : Nat} {A : Nat → Nat × Nat × Nat} (p3 : 3 ≤ p) (p15 : p ≤ 15) (hS : Sys t p m A) {s : Nat → Nat} (hs : ∀ x : Nat, (x : Int) < p → (s x : Int) < p) (hinj : ∀ x y : Nat, (x : Int) < p → (y : Int) < p → s x = s y → x = y) {x : Int32} {R : xQ} (hval : ∀ q : Nat, (q : Int) < p → (s q : Int) = q + bv x.toInt p ∨ (s q : Int) = q + bv x.toInt p - p) (hQ : ∀ (r : Int32) hp, bHk 84 bTT hp → P0 hp → bFr [(67, 999)] hp0 hp → R (.inl (some (.int r))) hp) : ∀ (j : Nat) (n k : Int32) (v5 v6 v7 : Option Value) hp, bHk 84 bTT hp → P0 hp → bFr [(67, 999)] hp0 hp → rN hp 67 0 = p → Arr hp m A → Img s A k.toInt.toNat hp → k.toInt + (j : Int) = 36 → 0 ≤ k.toInt → k.toInt ≤ (m : Int) → 0 ≤ n.toInt → n.toInt ≤ k.toInt → xV 9 am_m281 71 [some (.ref 66), some (.int x), some (.int n), some (.int k), v5, v6, v7] [] hp R := by
  intro j
  induction j using Nat.strongRecOn with
  | ind j ih =>
    intro n k v5 v6 v7 hp hH hP hF he hA hI hj k0 k1 n0 n1
    have am := hA.1
    have m35 := hS.1
    refine xild 72 ⟨u281, _, rfl⟩ rfl rfl ?_
    refine xald 73 ⟨u281, _, rfl⟩ rfl rfl ?_
    refine xgetI 76 hH ⟨u281, _, rfl⟩ rfl rfl (fun z73 h73 => ?_)
    refine xcmp_ge 79 ⟨u281, _, rfl⟩ rfl (fun c76 => ?_) (fun c76 => ?_)
    · refine xild 175 ⟨u281, _, rfl⟩ rfl rfl ?_
      exact xret ⟨u281, _, rfl⟩ rfl (hQ _ hp hH hP hF)
    · obtain ⟨a1, a2, a3, a4⟩ := hA.2 k.toInt.toNat (by omega)
      have hs3 := hS.2.1 k.toInt.toNat (by omega)
      have hf := Img_f p15 hS hs hinj (i := k.toInt.toNat) (by omega) hI
      have r1 := hs (A k.toInt.toNat).1 (by omega)
      have r21 := hs (A k.toInt.toNat).2.1 (by omega)
      have r22 := hs (A k.toInt.toNat).2.2 (by omega)
      have d12 : ¬ s (A k.toInt.toNat).1 = s (A k.toInt.toNat).2.1 := fun z => by have := hinj _ _ (by omega) (by omega) z; omega
      have d23 : ¬ s (A k.toInt.toNat).2.1 = s (A k.toInt.toNat).2.2 := fun z => by have := hinj _ _ (by omega) (by omega) z; omega
      have d13 : ¬ s (A k.toInt.toNat).1 = s (A k.toInt.toNat).2.2 := fun z => by have := hinj _ _ (by omega) (by omega) z; omega
      refine xald 80 ⟨u281, _, rfl⟩ rfl rfl ?_
      refine xald 81 ⟨u281, _, rfl⟩ rfl rfl ?_
      refine xgetR 84 72 hH ⟨u281, _, rfl⟩ rfl rfl ?_
      refine xild 85 ⟨u281, _, rfl⟩ rfl rfl ?_
      refine xiald 86 (k).toInt.toNat hH ⟨u281, _, rfl⟩ rfl (by decide) rfl (by omega) (by omega) (fun z85 h85 => ?_)
      refine xald 87 ⟨u281, _, rfl⟩ rfl rfl ?_
      refine xild 88 ⟨u281, _, rfl⟩ rfl rfl ?_
      refine xcall 91 [.ref 66, .int _] [.int _, .ref 66] hH ⟨u281, _, rfl⟩ rfl rfl rfl rfl rfl (k_by hH hP (fun z88 h88 => ⟨_, rfl, ?_⟩))
      rw [he] at h88
      have hbv := bv_in (k := x.toInt) (p := p) (by omega)
      refine xcall 94 [.ref 66, .int _, .int _] [] hH ⟨u281, _, rfl⟩ rfl rfl rfl rfl rfl (k_turn2 hH hP (by omega) (by omega) (by omega) (by omega) (fun z91 h91 => ⟨_, rfl, ?_⟩))
      have i0 : z91.toInt = (s (A k.toInt.toNat).1 : Int) := by
        have := hval (A k.toInt.toNat).1 (by omega)
        have := h91
        omega
      refine xist2 96 ⟨u281, _, rfl⟩ rfl rfl ?_
      refine xald 97 ⟨u281, _, rfl⟩ rfl rfl ?_
      refine xald 98 ⟨u281, _, rfl⟩ rfl rfl ?_
      refine xgetR 101 73 hH ⟨u281, _, rfl⟩ rfl rfl ?_
      refine xild 102 ⟨u281, _, rfl⟩ rfl rfl ?_
      refine xiald 103 (k).toInt.toNat hH ⟨u281, _, rfl⟩ rfl (by decide) rfl (by omega) (by omega) (fun z102 h102 => ?_)
      refine xald 104 ⟨u281, _, rfl⟩ rfl rfl ?_
      refine xild 105 ⟨u281, _, rfl⟩ rfl rfl ?_
      refine xcall 108 [.ref 66, .int _] [.int _, .ref 66] hH ⟨u281, _, rfl⟩ rfl rfl rfl rfl rfl (k_by hH hP (fun z105 h105 => ⟨_, rfl, ?_⟩))
      rw [he] at h105
      refine xcall 111 [.ref 66, .int _, .int _] [] hH ⟨u281, _, rfl⟩ rfl rfl rfl rfl rfl (k_turn2 hH hP (by omega) (by omega) (by omega) (by omega) (fun z108 h108 => ⟨_, rfl, ?_⟩))
      have i1 : z108.toInt = (s (A k.toInt.toNat).2.1 : Int) := by
        have := hval (A k.toInt.toNat).2.1 (by omega)
        have := h108
        omega
      refine xist2 113 ⟨u281, _, rfl⟩ rfl rfl ?_
      refine xald 114 ⟨u281, _, rfl⟩ rfl rfl ?_
      refine xald 115 ⟨u281, _, rfl⟩ rfl rfl ?_
      refine xgetR 118 74 hH ⟨u281, _, rfl⟩ rfl rfl ?_
      refine xild 119 ⟨u281, _, rfl⟩ rfl rfl ?_
      refine xiald 120 (k).toInt.toNat hH ⟨u281, _, rfl⟩ rfl (by decide) rfl (by omega) (by omega) (fun z119 h119 => ?_)
      refine xald 121 ⟨u281, _, rfl⟩ rfl rfl ?_
      refine xild 122 ⟨u281, _, rfl⟩ rfl rfl ?_
      refine xcall 125 [.ref 66, .int _] [.int _, .ref 66] hH ⟨u281, _, rfl⟩ rfl rfl rfl rfl rfl (k_by hH hP (fun z122 h122 => ⟨_, rfl, ?_⟩))
      rw [he] at h122
      refine xcall 128 [.ref 66, .int _, .int _] [] hH ⟨u281, _, rfl⟩ rfl rfl rfl rfl rfl (k_turn2 hH hP (by omega) (by omega) (by omega) (by omega) (fun z125 h125 => ⟨_, rfl, ?_⟩))
      have i2 : z125.toInt = (s (A k.toInt.toNat).2.2 : Int) := by
        have := hval (A k.toInt.toNat).2.2 (by omega)
        have := h125
        omega
      refine xist2 130 ⟨u281, _, rfl⟩ rfl rfl ?_
      refine xald 131 ⟨u281, _, rfl⟩ rfl rfl ?_
      refine xild2 133 ⟨u281, _, rfl⟩ rfl rfl ?_
      refine xild2 135 ⟨u281, _, rfl⟩ rfl rfl ?_
      refine xild2 137 ⟨u281, _, rfl⟩ rfl rfl ?_
      refine xcall 140 [.ref 66, .int _, .int _, .int _] [] hH ⟨u281, _, rfl⟩ rfl rfl rfl rfl rfl (k_put hH hP (by omega) (by omega) (by omega) (by omega) (by omega) (by omega) (by omega) (by omega) (by omega) (by rw [show z91.toInt.toNat = s (A k.toInt.toNat).1 by omega, show z108.toInt.toNat = s (A k.toInt.toNat).2.1 by omega, show z125.toInt.toNat = s (A k.toInt.toNat).2.2 by omega]; exact hf) (fun hp137 hH137 hP137 F137 E137 T137 => ⟨_, rfl, ?_⟩))
      have e137 : rN hp137 67 0 = rN hp 67 0 := E137 0 (by omega)
      have I1 := Img_s hI (i := k.toInt.toNat) (hp1 := hp137) (f := fun u v => z91.toInt + z108.toInt + z125.toInt - u - v) (fun u v hu hv => by
        rw [T137 u v hu hv, show z91.toInt.toNat = s (A k.toInt.toNat).1 by omega, show z108.toInt.toNat = s (A k.toInt.toNat).2.1 by omega, show z125.toInt.toNat = s (A k.toInt.toNat).2.2 by omega])
      refine xild 141 ⟨u281, _, rfl⟩ rfl rfl ?_
      refine xald 142 ⟨u281, _, rfl⟩ rfl rfl ?_
      refine xgetR 145 68 hH137 ⟨u281, _, rfl⟩ rfl rfl ?_
      refine xcst 146 (4) ⟨u281, _, rfl⟩ rfl (by decide) (fun z145 h145 => ?_)
      refine xbip 148 (15) ⟨u281, _, rfl⟩ rfl (by decide) (fun z146 h146 => ?_)
      refine xild2 150 ⟨u281, _, rfl⟩ rfl rfl ?_
      refine xmul 151 (15 * Int32.toInt z91) ⟨u281, _, rfl⟩ rfl (by rw [h146]) (by omega) (by omega) (fun z150 h150 => ?_)
      refine xadd 152 _ ⟨u281, _, rfl⟩ rfl rfl (by omega) (by omega) (fun z151 h151 => ?_)
      refine xild2 154 ⟨u281, _, rfl⟩ rfl rfl ?_
      refine xadd 155 _ ⟨u281, _, rfl⟩ rfl rfl (by omega) (by omega) (fun z154 h154 => ?_)
      refine xiald 156 (z154).toInt.toNat hH137 ⟨u281, _, rfl⟩ rfl (by decide) rfl (by omega) (by omega) (fun z155 h155 => ?_)
      refine xild2 158 ⟨u281, _, rfl⟩ rfl rfl ?_
      refine xcmp_ne 161 ⟨u281, _, rfl⟩ rfl (fun c158 => ?_) (fun c158 => ?_)
      · refine xcst 166 (0) ⟨u281, _, rfl⟩ rfl (by decide) (fun z165 h165 => ?_)
        refine xadd 167 _ ⟨u281, _, rfl⟩ rfl rfl (by omega) (by omega) (fun z166 h166 => ?_)
        refine xist 168 ⟨u281, _, rfl⟩ rfl rfl ?_
        refine xinc 171 (1) ⟨u281, _, rfl⟩ rfl rfl rfl (by decide) (by omega) (by omega) (fun z168 h168 => ?_)
        refine xgoto ⟨u281, _, rfl⟩ ?_
        exact ih (j - 1) (by omega) _ _ _ _ _ _ hH137 hP137 (hF.trans (bFr_sub F137 (by decide))) (e137.trans he) (Arr_W (W := [(67, 999)]) (by decide) F137 hA) (by rw [show k.toInt.toNat + 1 = (k.toInt + 1).toNat by omega] at I1; rwa [show Int32.toInt z168 = k.toInt + 1 by omega]) (by omega) (by omega) (by omega) (by omega) (by omega)
      · refine xcst 162 (1) ⟨u281, _, rfl⟩ rfl (by decide) (fun z161 h161 => ?_)
        refine xgoto ⟨u281, _, rfl⟩ ?_
        refine xadd 167 _ ⟨u281, _, rfl⟩ rfl rfl (by omega) (by omega) (fun z166 h166 => ?_)
        refine xist 168 ⟨u281, _, rfl⟩ rfl rfl ?_
        refine xinc 171 (1) ⟨u281, _, rfl⟩ rfl rfl rfl (by decide) (by omega) (by omega) (fun z168 h168 => ?_)
        refine xgoto ⟨u281, _, rfl⟩ ?_
        exact ih (j - 1) (by omega) _ _ _ _ _ _ hH137 hP137 (hF.trans (bFr_sub F137 (by decide))) (e137.trans he) (Arr_W (W := [(67, 999)]) (by decide) F137 hA) (by rw [show k.toInt.toNat + 1 = (k.toInt + 1).toNat by omega] at I1; rwa [show Int32.toInt z168 = k.toInt + 1 by omega]) (by omega) (by omega) (by omega) (by omega) (by omega)
