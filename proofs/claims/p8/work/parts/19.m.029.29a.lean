/-! ===== loads with the systems that come of them: the class ===== -/
def wTy : List (Nat × Nat) := [(13, 0), (13, 1), (13, 2)]
def wFg : List (Nat × Nat) := [(14, 0), (14, 3)]
theorem u92 : bUp 0 am_m92.1 = true := by decide +kernel
theorem u55 : bUp 0 am_m55.1 = true := by decide +kernel
theorem k_tyr {d : Nat} {hp : amH} {R : xQ} (hH : bHk 84 bTT hp) (hR : ∀ hp1, bHk 84 bTT hp1 → bFr wTy hp hp1 → (∀ i, i < 3 → rN hp1 13 i = 0) → R (.inl none) hp1) : xK d 92 [.ref 13] hp R := by
  refine xin (M := am_m92) rfl rfl rfl ?_
  refine xald 1 ⟨u92, _, rfl⟩ rfl rfl ?_
  refine xcst 2 (0) ⟨u92, _, rfl⟩ rfl (by decide) (fun z1 h1 => ?_)
  refine xputC 5 hH ⟨u92, _, rfl⟩ rfl (by decide) (by decide) rfl rfl (by decide) ⟨rfl, rfl⟩ (by omega) (by omega) (fun hp2 hH2 U2 => ?_)
  have s2 := U2.1
  have n2_13_1 : rN hp2 (13) 1 = rN hp (13) 1 := rU_ne U2 (by omega)
  have n2_13_2 : rN hp2 (13) 2 = rN hp (13) 2 := rU_ne U2 (by omega)
  refine xald 6 ⟨u92, _, rfl⟩ rfl rfl ?_
  refine xcst 7 (0) ⟨u92, _, rfl⟩ rfl (by decide) (fun z6 h6 => ?_)
  refine xputC 10 hH2 ⟨u92, _, rfl⟩ rfl (by decide) (by decide) rfl rfl (by decide) ⟨rfl, rfl⟩ (by omega) (by omega) (fun hp7 hH7 U7 => ?_)
  have s7 := U7.1
  have n7_13_0 : rN hp7 (13) 0 = rN hp2 (13) 0 := rU_ne U7 (by omega)
  have n7_13_2 : rN hp7 (13) 2 = rN hp2 (13) 2 := rU_ne U7 (by omega)
  refine xald 11 ⟨u92, _, rfl⟩ rfl rfl ?_
  refine xcst 12 (0) ⟨u92, _, rfl⟩ rfl (by decide) (fun z11 h11 => ?_)
  refine xputC 15 hH7 ⟨u92, _, rfl⟩ rfl (by decide) (by decide) rfl rfl (by decide) ⟨rfl, rfl⟩ (by omega) (by omega) (fun hp12 hH12 U12 => ?_)
  have s12 := U12.1
  have n12_13_0 : rN hp12 (13) 0 = rN hp7 (13) 0 := rU_ne U12 (by omega)
  have n12_13_1 : rN hp12 (13) 1 = rN hp7 (13) 1 := rU_ne U12 (by omega)
  exact xretV ⟨u92, _, rfl⟩ rfl (hR _ hH12 (((rU_fr U2 (by decide)).trans (rU_fr U7 (by decide))).trans (rU_fr U12 (by decide))) (fun i hi => by rcases (by omega : i = 0 ∨ i = 1 ∨ i = 2) with rfl | rfl | rfl <;> omega))
theorem k_fga {d : Nat} {hp : amH} {R : xQ} (hH : bHk 84 bTT hp) (hR : ∀ hp1, bHk 84 bTT hp1 → bFr wFg hp hp1 → rN hp1 14 0 = 0 → rN hp1 14 3 = 0 → R (.inl none) hp1) : xK d 55 [.ref 14] hp R := by
  refine xin (M := am_m55) rfl rfl rfl ?_
  refine xald 1 ⟨u55, _, rfl⟩ rfl rfl ?_
  refine xcst 2 (0) ⟨u55, _, rfl⟩ rfl (by decide) (fun z1 h1 => ?_)
  refine xputC 5 hH ⟨u55, _, rfl⟩ rfl (by decide) (by decide) rfl rfl (by decide) ⟨rfl, rfl⟩ (by omega) (by omega) (fun hp2 hH2 U2 => ?_)
  have s2 := U2.1
  have n2_14_3 : rN hp2 (14) 3 = rN hp (14) 3 := rU_ne U2 (by omega)
  refine xald 6 ⟨u55, _, rfl⟩ rfl rfl ?_
  refine xcst 7 (0) ⟨u55, _, rfl⟩ rfl (by decide) (fun z6 h6 => ?_)
  refine xputC 10 hH2 ⟨u55, _, rfl⟩ rfl (by decide) (by decide) rfl rfl (by decide) (by rw [show z6 = 0 from Int32.toInt_inj.mp h6]; exact ⟨rfl, rfl⟩) (by omega) (by omega) (fun hp7 hH7 U7 => ?_)
  have s7 := U7.1
  have n7_14_0 : rN hp7 (14) 0 = rN hp2 (14) 0 := rU_ne U7 (by omega)
  exact xretV ⟨u55, _, rfl⟩ rfl (hR _ hH7 ((rU_fr U2 (by decide)).trans (rU_fr U7 (by decide))) (by omega) (by omega))
