theorem l220y {d V q : Nat} {T : sT} {ty : Nat → Int} {hp0 : amH} {R : xQ} {a : Int32} (hT : sOk V T) (hq : q < nQ T) (hA : ∀ j, j < 24 → rN hp0 77 j = ((rpv T (cQ2 T q) j : Nat) : Int)) (hG : tkOk T (qG T (cQ2 T q)))
    (hR : ∀ (w : Int32) (v3 : Option Value) hp1, bHk 84 bTT hp1 → P0 hp1 → bFr [(67, 999)] hp0 hp1 → rowOk (rN hp1 67) (V, uTs T (qG T (cQ2 T q)), ty) → xV (d + 2) am_m220 179 [some (.ref 66), some (.int a), some (.int w), v3] [] hp1 R) :
    ∀ (jj k : Nat) (w : Int32) (v3 : Option Value) (hp : amH), w.toInt = 6 * (k : Int) → k + jj = 4 → bHk 84 bTT hp → P0 hp → bFr [(67, 999)] hp0 hp → rowOk (rN hp 67) (V, uTs T ((qG T (cQ2 T q)).take k), ty) → xV (d + 2) am_m220 141 [some (.ref 66), some (.int a), some (.int w), v3] [] hp R := by
  intro jj
  induction jj with
  | zero =>
    intro k w v3 hp hw hj hH hP hF hC
    have et : k = 4 := by omega
    subst et
    refine xild 142 ⟨u220, _, rfl⟩ rfl rfl ?_
    refine xbip 144 (24) ⟨u220, _, rfl⟩ rfl (by decide) (fun z142 h142 => ?_)
    refine xcmp_ge 147 ⟨u220, _, rfl⟩ rfl (fun c144 => ?_) (fun c144 => ?_)
    · exact hR _ _ hp hH hP hF hC
    · omega
  | succ jj ih =>
    intro k w v3 hp hw hj hH hP hF hC
    obtain ⟨l1, l2, l3, l4⟩ := qL_lt hT hq k (by omega)
    obtain ⟨s1, s2, s3, s4, s5⟩ := c3_s hT l1
    obtain ⟨p0, p1, p2, p3, p4, p5⟩ := rpv_s T (cQ2 T q) k
    have hA2 : ∀ j, j < 24 → rN hp 77 j = ((rpv T (cQ2 T q) j : Nat) : Int) := fun j hj2 => (r_fr hF rfl).trans (hA j hj2)
    have ed : (qG T (cQ2 T q)).take (k + 1) = (qG T (cQ2 T q)).take k ++ [mN T ((qL T (cQ2 T q)).getD k 0)] := by rw [tk_succ (show k < (qG T (cQ2 T q)).length by show k < 4; omega), l3]
    have sp : qG T (cQ2 T q) = (qG T (cQ2 T q)).take k ++ mN T ((qL T (cQ2 T q)).getD k 0) :: (qG T (cQ2 T q)).drop (k + 1) := by
      have h4 : k < (qG T (cQ2 T q)).length := by show k < 4; omega
      have e := List.take_append_drop k (qG T (cQ2 T q))
      rw [List.drop_eq_getElem_cons h4] at e
      rw [List.getD_eq_getElem?_getD, List.getElem?_eq_getElem h4] at l3
      have l3 : (qG T (cQ2 T q))[k] = _ := l3
      rw [l3] at e
      exact e.symm
    have tk : triM (uTs T ((qG T (cQ2 T q)).take k)) (mN T ((qL T (cQ2 T q)).getD k 0)) := by
      have h2 := hG
      rw [sp] at h2
      exact (tkOk_app h2).2.1
    obtain ⟨x, y, z, x1, x2, x3, x4⟩ := tk
    rw [s4] at x3
    obtain ⟨i1, i2, i3⟩ := m3_inj x3 s1 s2 x1 x2
    rw [← i1, ← i2, ← i3] at x4
    have eT : uTs T ((qG T (cQ2 T q)).take (k + 1)) = sTake (uTs T ((qG T (cQ2 T q)).take k)) (c3 T ((qL T (cQ2 T q)).getD k 0) 0) (c3 T ((qL T (cQ2 T q)).getD k 0) 1) (c3 T ((qL T (cQ2 T q)).getD k 0) 2) := by
      rw [ed, uTs_app, s4]
      exact uTake_3 _
    refine xild 142 ⟨u220, _, rfl⟩ rfl rfl ?_
    refine xbip 144 (24) ⟨u220, _, rfl⟩ rfl (by decide) (fun z142 h142 => ?_)
    refine xcmp_ge 147 ⟨u220, _, rfl⟩ rfl (fun c144 => ?_) (fun c144 => ?_)
    · omega
    · refine xald 148 ⟨u220, _, rfl⟩ rfl rfl ?_
      refine xald 149 ⟨u220, _, rfl⟩ rfl rfl ?_
      refine xgetR 152 77 hH ⟨u220, _, rfl⟩ rfl rfl ?_
      refine xild 153 ⟨u220, _, rfl⟩ rfl rfl ?_
      refine xiald 154 (w).toInt.toNat hH ⟨u220, _, rfl⟩ rfl (by decide) rfl (by omega) (by omega) (fun z153 h153 => ?_)
      refine xald 155 ⟨u220, _, rfl⟩ rfl rfl ?_
      refine xgetR 158 77 hH ⟨u220, _, rfl⟩ rfl rfl ?_
      refine xild 159 ⟨u220, _, rfl⟩ rfl rfl ?_
      refine xcst 160 (1) ⟨u220, _, rfl⟩ rfl (by decide) (fun z159 h159 => ?_)
      refine xadd 161 _ ⟨u220, _, rfl⟩ rfl rfl (by omega) (by omega) (fun z160 h160 => ?_)
      refine xiald 162 (z160).toInt.toNat hH ⟨u220, _, rfl⟩ rfl (by decide) rfl (by omega) (by omega) (fun z161 h161 => ?_)
      refine xald 163 ⟨u220, _, rfl⟩ rfl rfl ?_
      refine xgetR 166 77 hH ⟨u220, _, rfl⟩ rfl rfl ?_
      refine xild 167 ⟨u220, _, rfl⟩ rfl rfl ?_
      refine xcst 168 (2) ⟨u220, _, rfl⟩ rfl (by decide) (fun z167 h167 => ?_)
      refine xadd 169 _ ⟨u220, _, rfl⟩ rfl rfl (by omega) (by omega) (fun z168 h168 => ?_)
      refine xiald 170 (z168).toInt.toNat hH ⟨u220, _, rfl⟩ rfl (by decide) rfl (by omega) (by omega) (fun z169 h169 => ?_)
      refine xcall 173 [.ref 66, .int _, .int _, .int _] [] hH ⟨u220, _, rfl⟩ rfl rfl rfl rfl rfl (k_tkR hH hP hC (x := c3 T ((qL T (cQ2 T q)).getD k 0) 0) (y := c3 T ((qL T (cQ2 T q)).getD k 0) 1) (z := c3 T ((qL T (cQ2 T q)).getD k 0) 2) (by rw [h153, show w.toInt.toNat = 6 * k by omega, hA2 _ (by omega), p0]) (by rw [h161, show z160.toInt.toNat = 6 * k + 1 by omega, hA2 _ (by omega), p1]) (by rw [h169, show z168.toInt.toNat = 6 * k + 2 by omega, hA2 _ (by omega), p2]) x4 (fun hp170 hH170 P170 F170 C170 => ⟨_, rfl, ?_⟩))
      rw [← eT] at C170
      refine xinc 176 (6) ⟨u220, _, rfl⟩ rfl rfl rfl (by decide) (by omega) (by omega) (fun z173 h173 => ?_)
      refine xgoto ⟨u220, _, rfl⟩ ?_
      exact ih (k + 1) z173 _ hp170 (by omega) (by omega) hH170 P170 (hF.trans F170) C170
