theorem l220z {d V q : Nat} {T T0 : sT} {ty : Nat → Int} {hp0 : amH} {R : xQ} {a : Int32} (hT : sOk V T) (hq : q < nQ T) (hA : ∀ j, j < 24 → rN hp0 77 j = ((rpv T (cQ2 T q) j : Nat) : Int)) (hT0 : sOk V T0) (hG : ptOk V T0 (qC T (cQ2 T q)))
    (hR : ∀ (w : Int32) (v3 : Option Value) hp1, bHk 84 bTT hp1 → P0 hp1 → bFr [(67, 999)] hp0 hp1 → rowOk (rN hp1 67) (V, uPs T0 (qC T (cQ2 T q)), ty) → xV (d + 2) am_m220 221 [some (.ref 66), some (.int a), some (.int w), v3] [] hp1 R) :
    ∀ (jj k : Nat) (w : Int32) (v3 : Option Value) (hp : amH), w.toInt = 6 * (k : Int) → k + jj = 4 → bHk 84 bTT hp → P0 hp → bFr [(67, 999)] hp0 hp → rowOk (rN hp 67) (V, uPs T0 ((qC T (cQ2 T q)).take k), ty) → xV (d + 2) am_m220 181 [some (.ref 66), some (.int a), some (.int w), v3] [] hp R := by
  have hV := hT.2.1
  intro jj
  induction jj with
  | zero =>
    intro k w v3 hp hw hj hH hP hF hC
    have et : k = 4 := by omega
    subst et
    refine xild 182 ⟨u220, _, rfl⟩ rfl rfl ?_
    refine xbip 184 (24) ⟨u220, _, rfl⟩ rfl (by decide) (fun z182 h182 => ?_)
    refine xcmp_ge 187 ⟨u220, _, rfl⟩ rfl (fun c184 => ?_) (fun c184 => ?_)
    · exact hR _ _ hp hH hP hF hC
    · omega
  | succ jj ih =>
    intro k w v3 hp hw hj hH hP hF hC
    obtain ⟨ho, o2, o3, o4, o5⟩ := op_all hT hq (show k < 4 by omega)
    obtain ⟨a0, b0, d0⟩ := ho 0 (by omega)
    obtain ⟨a1, b1, d1⟩ := ho 1 (by omega)
    obtain ⟨a2, b2, d2⟩ := ho 2 (by omega)
    obtain ⟨p0, p1, p2, p3, p4, p5⟩ := rpv_s T (cQ2 T q) k
    have hA2 : ∀ j, j < 24 → rN hp 77 j = ((rpv T (cQ2 T q) j : Nat) : Int) := fun j hj2 => (r_fr hF rfl).trans (hA j hj2)
    generalize oppQ T (cQ2 T q) (c3 T ((qL T (cQ2 T q)).getD k 0) 0) = x at *
    generalize oppQ T (cQ2 T q) (c3 T ((qL T (cQ2 T q)).getD k 0) 1) = y at *
    generalize oppQ T (cQ2 T q) (c3 T ((qL T (cQ2 T q)).getD k 0) 2) = z at *
    have h4 : k < (qC T (cQ2 T q)).length := by show k < 4; omega
    have ed : (qC T (cQ2 T q)).take (k + 1) = (qC T (cQ2 T q)).take k ++ [m3 x y z] := by rw [tk_succ h4, o2]
    have sp : qC T (cQ2 T q) = (qC T (cQ2 T q)).take k ++ m3 x y z :: (qC T (cQ2 T q)).drop (k + 1) := by
      have e := List.take_append_drop k (qC T (cQ2 T q))
      rw [List.drop_eq_getElem_cons h4] at e
      rw [List.getD_eq_getElem?_getD, List.getElem?_eq_getElem h4] at o2
      have o2 : (qC T (cQ2 T q))[k] = _ := o2
      rw [o2] at e
      exact e.symm
    have pk : ptOk V T0 ((qC T (cQ2 T q)).take k) ∧ freM V (uPs T0 ((qC T (cQ2 T q)).take k)) (m3 x y z) := by
      have h2 := hG
      rw [sp] at h2
      have h3 := ptOk_app h2
      exact ⟨h3.1, h3.2.1⟩
    have fr := freM_3 (sOk_uPs hT0 pk.1) pk.2 o3 o4 o5
    have eT : uPs T0 ((qC T (cQ2 T q)).take (k + 1)) = sPut (uPs T0 ((qC T (cQ2 T q)).take k)) x y z := by
      rw [ed, uPs_app]
      exact uPut_3 _ (by omega) (by omega) (by omega) o3 o4 o5
    refine xild 182 ⟨u220, _, rfl⟩ rfl rfl ?_
    refine xbip 184 (24) ⟨u220, _, rfl⟩ rfl (by decide) (fun z182 h182 => ?_)
    refine xcmp_ge 187 ⟨u220, _, rfl⟩ rfl (fun c184 => ?_) (fun c184 => ?_)
    · omega
    · refine xald 188 ⟨u220, _, rfl⟩ rfl rfl ?_
      refine xald 189 ⟨u220, _, rfl⟩ rfl rfl ?_
      refine xgetR 192 77 hH ⟨u220, _, rfl⟩ rfl rfl ?_
      refine xild 193 ⟨u220, _, rfl⟩ rfl rfl ?_
      refine xcst 194 (3) ⟨u220, _, rfl⟩ rfl (by decide) (fun z193 h193 => ?_)
      refine xadd 195 _ ⟨u220, _, rfl⟩ rfl rfl (by omega) (by omega) (fun z194 h194 => ?_)
      refine xiald 196 (z194).toInt.toNat hH ⟨u220, _, rfl⟩ rfl (by decide) rfl (by omega) (by omega) (fun z195 h195 => ?_)
      refine xald 197 ⟨u220, _, rfl⟩ rfl rfl ?_
      refine xgetR 200 77 hH ⟨u220, _, rfl⟩ rfl rfl ?_
      refine xild 201 ⟨u220, _, rfl⟩ rfl rfl ?_
      refine xcst 202 (4) ⟨u220, _, rfl⟩ rfl (by decide) (fun z201 h201 => ?_)
      refine xadd 203 _ ⟨u220, _, rfl⟩ rfl rfl (by omega) (by omega) (fun z202 h202 => ?_)
      refine xiald 204 (z202).toInt.toNat hH ⟨u220, _, rfl⟩ rfl (by decide) rfl (by omega) (by omega) (fun z203 h203 => ?_)
      refine xald 205 ⟨u220, _, rfl⟩ rfl rfl ?_
      refine xgetR 208 77 hH ⟨u220, _, rfl⟩ rfl rfl ?_
      refine xild 209 ⟨u220, _, rfl⟩ rfl rfl ?_
      refine xcst 210 (5) ⟨u220, _, rfl⟩ rfl (by decide) (fun z209 h209 => ?_)
      refine xadd 211 _ ⟨u220, _, rfl⟩ rfl rfl (by omega) (by omega) (fun z210 h210 => ?_)
      refine xiald 212 (z210).toInt.toNat hH ⟨u220, _, rfl⟩ rfl (by decide) rfl (by omega) (by omega) (fun z211 h211 => ?_)
      refine xcall 215 [.ref 66, .int _, .int _, .int _] [] hH ⟨u220, _, rfl⟩ rfl rfl rfl rfl rfl (k_ptR hH hP hC (x := x) (y := y) (z := z) (by rw [h195, show z194.toInt.toNat = 6 * k + 3 by omega, hA2 _ (by omega), p3]) (by rw [h203, show z202.toInt.toNat = 6 * k + 4 by omega, hA2 _ (by omega), p4]) (by rw [h211, show z210.toInt.toNat = 6 * k + 5 by omega, hA2 _ (by omega), p5]) d0 d1 d2 o3 o4 o5 fr (fun hp212 hH212 P212 F212 C212 => ⟨_, rfl, ?_⟩))
      rw [← eT] at C212
      refine xinc 218 (6) ⟨u220, _, rfl⟩ rfl rfl rfl (by decide) (by omega) (by omega) (fun z215 h215 => ?_)
      refine xgoto ⟨u220, _, rfl⟩ ?_
      exact ih (k + 1) z215 _ hp212 (by omega) (by omega) hH212 P212 (hF.trans F212) C212
