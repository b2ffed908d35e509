/-! ===== the reference's completions keep the state ===== -/
theorem rowOk_eqJ {r r1 : Nat → Int} {q : sR} (h : rowOk r q) (e : ∀ i, i < 229 → r1 i = r i) : rowOk r1 q := ⟨(e 0 (by omega)).trans h.1, h.2.1, fun u v hu hv => (e _ (by omega)).trans (h.2.2.1 u v hu hv), h.2.2.2.1, fun i hi => (e _ (by omega)).trans (h.2.2.2.2 i hi)⟩
theorem rfS_rest {hp hp1 : amH} {q : sR} {n : Nat} {h : Nat → sR} {sv : Option sR} (hS : rfS hp q n h sv) (F : bFr [(67, 999)] hp hp1) (E : ∀ i, i < 229 → rN hp1 67 i = rN hp 67 i) : rfS hp1 q n h sv := rfS_67 hS F (rowOk_eqJ hS.1 E)
theorem k_285J {n : Nat} {h : Nat → sR} {sv : Option sR} {q : sR} {hp : amH} {R : xQ} (hH : bHk 84 bTT hp) (hP : P0 hp) (hS : rfS hp q n h sv)
    (hR : ∀ (z : Int32) hp1, bHk 84 bTT hp1 → P0 hp1 → bFr wM hp hp1 → rfS hp1 q n h sv → R (.inl (some (.int z))) hp1) : xK 232 285 [.ref 66] hp R := by
  refine xin (M := am_m285) rfl rfl rfl ?_
  have G := bFr.refl wM hp
  refine xald 1 ⟨u285, _, rfl⟩ rfl rfl ?_
  refine xcst 2 (0) ⟨u285, _, rfl⟩ rfl (by decide) (fun z1 h1 => ?_)
  refine xputI 5 hH ⟨u285, _, rfl⟩ rfl rfl ⟨rfl, rfl⟩ (by omega) (by omega) (fun hp2 hH2 U2 => ?_)
  have F2 : bFr [(66, 7)] hp hp2 := rU_fr U2 rfl
  have G2 := G.trans (rU_fr U2 (W := wM) (by decide))
  have hP2 := P0_W (W := [(66, 7)]) (by decide) F2 hP
  have S2 := rfS_W hS F2 (fun _ => rfl) rfl rfl (fun _ => rfl) (fun _ => rfl)
  refine xald 6 ⟨u285, _, rfl⟩ rfl rfl ?_
  refine xcall 9 [.ref 66] [] hH2 ⟨u285, _, rfl⟩ rfl rfl rfl rfl rfl (k_unm hH2 hP2 (fun z6 hp6 hH6 hP6 F6 => ⟨_, rfl, ?_⟩))
  have G6 := G2.trans (bFr_sub (W1 := wM) F6 (by decide))
  have S6 := rfS_W S2 F6 (fun _ => rfl) rfl rfl (fun _ => rfl) (fun _ => rfl)
  refine xbip 11 (30) ⟨u285, _, rfl⟩ rfl (by decide) (fun z9 h9 => ?_)
  refine xcmp_le 14 ⟨u285, _, rfl⟩ rfl (fun c11 => ?_) (fun c11 => ?_)
  · refine xald 20 ⟨u285, _, rfl⟩ rfl rfl ?_
    refine xcall 23 [.ref 66] [] hH6 ⟨u285, _, rfl⟩ rfl rfl rfl rfl rfl (k_comp 225 hH6 hP6 (unc_le _) (fun z20 hp20 hH20 hP20 F20 E20 => ⟨_, rfl, ?_⟩))
    have G20 := G6.trans (bFr_sub (W1 := wM) F20 (by decide))
    exact xret ⟨u285, _, rfl⟩ rfl (hR _ _ hH20 hP20 G20 (rfS_rest S6 F20 E20))
  · refine xbip 16 (-2) ⟨u285, _, rfl⟩ rfl (by decide) (fun z14 h14 => ?_)
    refine xgoto ⟨u285, _, rfl⟩ ?_
    exact xret ⟨u285, _, rfl⟩ rfl (hR _ _ hH6 hP6 G6 S6)
