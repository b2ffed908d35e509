theorem k_220E {d V n q : Nat} {h : Nat → sR} {sv : Option sR} {T : sT} {ty : Nat → Int} {hp : amH} {R : xQ} {a : Int32} (hH : bHk 84 bTT hp) (hP : P0 hp) (hS : rfS hp (V, T, ty) n h sv) (hL : rlN hp T 225) (hQ : rqN hp T 42875) (hq : q < nQ T) (ha : a.toInt = (q : Int))
    (hR : ∀ hp1, bHk 84 bTT hp1 → P0 hp1 → bFr [(67, 999), (77, 999)] hp hp1 → rfS hp1 (V, swQ T (cQ2 T q), tyQ ty) n h sv → R (.inl none) hp1) : xK (d + 2) 220 [.ref 66, .int a] hp R := by
  have hT : sOk V T := hS.1.2.1
  obtain ⟨g1, g2, g3, g4, g5, g6⟩ := sw_ok hT hq
  refine xin (M := am_m220) rfl rfl rfl ?_
  refine xcst 1 (0) ⟨u220, _, rfl⟩ rfl (by decide) (fun z0 h0 => ?_)
  refine xist 2 ⟨u220, _, rfl⟩ rfl rfl ?_
  refine xpad 1 ?_
  refine l220x hT hL hQ hq ha (fun w1 v1 hpa hHa Fa Aa => ?_) 4 0 _ _ hp h0 (by omega) hH (bFr.refl _ _) (fun j hj => absurd hj (by omega))
  have Pa : P0 hpa := P0_W (W := [(77, 999)]) (by decide) Fa hP
  have Ca : rowOk (rN hpa 67) (V, T, ty) := by rw [show rN hpa 67 = rN hp 67 from funext (fun i => r_fr Fa rfl)]; exact hS.1
  refine xcst 140 (0) ⟨u220, _, rfl⟩ rfl (by decide) (fun z139 h139 => ?_)
  refine xist 141 ⟨u220, _, rfl⟩ rfl rfl ?_
  refine l220y (a := a) (ty := ty) hT hq Aa g3 (fun w2 v2 hpb hHb Pb Fb Cb => ?_) 4 0 _ _ hpa (by omega) (by omega) hHa Pa (bFr.refl _ _) Ca
  have Ab : ∀ j, j < 24 → rN hpb 77 j = ((rpv T (cQ2 T q) j : Nat) : Int) := fun j hj2 => (r_fr Fb rfl).trans (Aa j hj2)
  refine xcst 180 (0) ⟨u220, _, rfl⟩ rfl (by decide) (fun z179 h179 => ?_)
  refine xist 181 ⟨u220, _, rfl⟩ rfl rfl ?_
  refine l220z (a := a) (ty := ty) hT hq Ab g4 g5 (fun w3 v3 hpc hHc Pc Fc Cc => ?_) 4 0 _ _ hpb (by omega) (by omega) hHb Pb (bFr.refl _ _) Cb
  refine xald 222 ⟨u220, _, rfl⟩ rfl rfl ?_
  refine xgetR 225 67 hHc ⟨u220, _, rfl⟩ rfl rfl ?_
  refine xcst 226 (1) ⟨u220, _, rfl⟩ rfl (by decide) (fun z225 h225 => ?_)
  refine xdup2 227 ⟨u220, _, rfl⟩ rfl rfl rfl ?_
  refine xiald 228 (z225).toInt.toNat hHc ⟨u220, _, rfl⟩ rfl (by decide) rfl (by omega) (by omega) (fun z227 h227 => ?_)
  refine xcst 229 (1) ⟨u220, _, rfl⟩ rfl (by decide) (fun z228 h228 => ?_)
  refine xaddB 230 ⟨u220, _, rfl⟩ rfl (fun z229 h229 => ?_)
  have em230 := aMin z229
  have ex230 := aMax z229
  refine xiast 231 (z225).toInt.toNat hHc ⟨u220, _, rfl⟩ rfl (by decide) rfl (by omega) (by omega) (by omega) (by omega) (fun hp230 hH230 U230 => ?_)
  have s230 := U230.1
  refine xald 232 ⟨u220, _, rfl⟩ rfl rfl ?_
  refine xgetR 235 67 hH230 ⟨u220, _, rfl⟩ rfl rfl ?_
  refine xcst 236 (3) ⟨u220, _, rfl⟩ rfl (by decide) (fun z235 h235 => ?_)
  refine xdup2 237 ⟨u220, _, rfl⟩ rfl rfl rfl ?_
  refine xiald 238 (z235).toInt.toNat hH230 ⟨u220, _, rfl⟩ rfl (by decide) rfl (by omega) (by omega) (fun z237 h237 => ?_)
  refine xcst 239 (4) ⟨u220, _, rfl⟩ rfl (by decide) (fun z238 h238 => ?_)
  refine xaddB 240 ⟨u220, _, rfl⟩ rfl (fun z239 h239 => ?_)
  have em240 := aMin z239
  have ex240 := aMax z239
  refine xiast 241 (z235).toInt.toNat hH230 ⟨u220, _, rfl⟩ rfl (by decide) rfl (by omega) (by omega) (by omega) (by omega) (fun hp240 hH240 U240 => ?_)
  have s240 := U240.1
  have q1 : rN hpc 67 1 = ty 0 := Cc.2.2.2.2 0 (by omega)
  have q2 : rN hpc 67 2 = ty 1 := Cc.2.2.2.2 1 (by omega)
  have q3 : rN hpc 67 3 = ty 2 := Cc.2.2.2.2 2 (by omega)
  have u230 := U230.1
  have u240 := U240.1
  have i1 : z225.toInt.toNat = 1 := by omega
  have i3 : z235.toInt.toNat = 3 := by omega
  rw [i1] at u230 h227
  rw [i3] at u240 h237
  have Cd : rowOk (rN hp240 67) (V, swQ T (cQ2 T q), tyQ ty) := by
    obtain ⟨r0, r1, r2, r3, r4⟩ := Cc
    refine ⟨by rw [rU_ne U240 (by omega), rU_ne U230 (by omega)]; exact r0, r1, fun u v hu hv => by rw [rU_ne U240 (by omega), rU_ne U230 (by omega)]; exact r2 u v hu hv, r3, fun i hi => ?_⟩
    have : i = 0 ∨ i = 1 ∨ i = 2 := by omega
    rcases this with rfl | rfl | rfl
    · show rN hp240 67 1 = _
      rw [rU_ne U240 (by omega), u230, h229, h227, q1, h228]
      rfl
    · show rN hp240 67 2 = _
      rw [rU_ne U240 (by omega), rU_ne U230 (by omega)]
      exact q2
    · show rN hp240 67 3 = _
      rw [u240, h239, h237, rU_ne U230 (by omega), q3, h238]
      rfl
  have Fd : bFr [(67, 999)] hpa hp240 := ((Fb.trans Fc).trans (rU_fr U230 (bIn_all (by decide) _))).trans (rU_fr U240 (bIn_all (by decide) _))
  exact xretV ⟨u220, _, rfl⟩ rfl (hR hp240 hH240 (P0_67 Fd Pa (rowOk_V Cd)) ((bFr_sub Fa (by decide)).trans (bFr_sub Fd (by decide))) (rfS_67 (rfS_W hS Fa (fun _ => rfl) rfl rfl (fun _ => rfl) (fun _ => rfl)) Fd Cd))
