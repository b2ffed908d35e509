/-! ===== loads with the systems that come of them: the reference ===== -/
theorem l199z {d : Nat} {hp0 : amH} {R : xQ} {m : Int32} (m0 : 3 ≤ m.toInt) (m1 : m.toInt ≤ 15) (hR : ∀ hp1, bHk 84 bTT hp1 → bFr [(67, 999)] hp0 hp1 → rN hp1 67 0 = m.toInt → hE hp1 → (∀ i, 1 ≤ i → i < 4 → rN hp1 67 i = 0) → R (.inl none) hp1) :
    ∀ (jj : Nat) (k : Int32) (hp : amH), k.toInt + (jj : Int) = 229 → 0 ≤ k.toInt → bHk 84 bTT hp → bFr [(67, 999)] hp0 hp → (∀ i, 4 ≤ i → i < k.toInt.toNat → rN hp 67 i = -1) → (∀ i, 1 ≤ i → i < 4 → i < k.toInt.toNat → rN hp 67 i = 0) → xV d am_m199 2 [some (.ref 66), some (.int m), some (.int k)] [] hp R := by
  intro jj
  induction jj using Nat.strongRecOn with
  | ind jj ih =>
    intro k hp hjj k0 hH hF hM hZ
    refine xild 3 ⟨u199, _, rfl⟩ rfl rfl ?_
    refine xsip 6 (229) ⟨u199, _, rfl⟩ rfl (by decide) (fun z3 h3 => ?_)
    refine xcmp_ge 9 ⟨u199, _, rfl⟩ rfl (fun c6 => ?_) (fun c6 => ?_)
    · refine xald 32 ⟨u199, _, rfl⟩ rfl rfl ?_
      refine xgetR 35 67 hH ⟨u199, _, rfl⟩ rfl rfl ?_
      refine xcst 36 (0) ⟨u199, _, rfl⟩ rfl (by decide) (fun z35 h35 => ?_)
      refine xild 37 ⟨u199, _, rfl⟩ rfl rfl ?_
      refine xiast 38 0 hH ⟨u199, _, rfl⟩ rfl (by decide) rfl (by omega) (by omega) (by omega) (by omega) (fun hp37 hH37 U37 => ?_)
      exact xretV ⟨u199, _, rfl⟩ rfl (hR hp37 hH37 (hF.trans (rU_fr U37 (bIn_all (by decide) _))) U37.1 (fun i g1 g2 => by rw [show rN hp37 67 i = rN hp 67 i from rU_ne U37 (by omega)]; exact hM i g1 (by omega)) (fun i g1 g2 => by rw [show rN hp37 67 i = rN hp 67 i from rU_ne U37 (by omega)]; exact hZ i g1 g2 (by omega)))
    · refine xald 10 ⟨u199, _, rfl⟩ rfl rfl ?_
      refine xgetR 13 67 hH ⟨u199, _, rfl⟩ rfl rfl ?_
      refine xild 14 ⟨u199, _, rfl⟩ rfl rfl ?_
      refine xild 15 ⟨u199, _, rfl⟩ rfl rfl ?_
      refine xcst 16 (4) ⟨u199, _, rfl⟩ rfl (by decide) (fun z15 h15 => ?_)
      refine xcmp_ge 19 ⟨u199, _, rfl⟩ rfl (fun c16 => ?_) (fun c16 => ?_)
      · refine xcst 24 (-1) ⟨u199, _, rfl⟩ rfl (by decide) (fun z23 h23 => ?_)
        refine xiast 25 (k).toInt.toNat hH ⟨u199, _, rfl⟩ rfl (by decide) rfl (by omega) (by omega) (by omega) (by omega) (fun hp24 hH24 U24 => ?_)
        refine xinc 28 (1) ⟨u199, _, rfl⟩ rfl rfl rfl (by decide) (by omega) (by omega) (fun z25 h25 => ?_)
        refine xgoto ⟨u199, _, rfl⟩ ?_
        exact ih (jj - 1) (by omega) _ hp24 (by omega) (by omega) hH24 (hF.trans (rU_fr U24 (bIn_all (by decide) _))) (fun i g1 g2 => by
          by_cases e : i = k.toInt.toNat
          · rw [e, U24.1]; omega
          · rw [show rN hp24 67 i = rN hp 67 i from rU_ne U24 (by omega)]; exact hM i g1 (by omega)) (fun i g1 g2 g3 => by
          by_cases e : i = k.toInt.toNat
          · rw [e, U24.1]; omega
          · rw [show rN hp24 67 i = rN hp 67 i from rU_ne U24 (by omega)]; exact hZ i g1 g2 (by omega))
      · refine xcst 20 (0) ⟨u199, _, rfl⟩ rfl (by decide) (fun z19 h19 => ?_)
        refine xgoto ⟨u199, _, rfl⟩ ?_
        refine xiast 25 (k).toInt.toNat hH ⟨u199, _, rfl⟩ rfl (by decide) rfl (by omega) (by omega) (by omega) (by omega) (fun hp24 hH24 U24 => ?_)
        refine xinc 28 (1) ⟨u199, _, rfl⟩ rfl rfl rfl (by decide) (by omega) (by omega) (fun z25 h25 => ?_)
        refine xgoto ⟨u199, _, rfl⟩ ?_
        exact ih (jj - 1) (by omega) _ hp24 (by omega) (by omega) hH24 (hF.trans (rU_fr U24 (bIn_all (by decide) _))) (fun i g1 g2 => by
          by_cases e : i = k.toInt.toNat
          · rw [e, U24.1]; omega
          · rw [show rN hp24 67 i = rN hp 67 i from rU_ne U24 (by omega)]; exact hM i g1 (by omega)) (fun i g1 g2 g3 => by
          by_cases e : i = k.toInt.toNat
          · rw [e, U24.1]; omega
          · rw [show rN hp24 67 i = rN hp 67 i from rU_ne U24 (by omega)]; exact hZ i g1 g2 (by omega))
theorem k_emz {d : Nat} {hp0 : amH} {R : xQ} {m : Int32} (hH : bHk 84 bTT hp0) (m0 : 3 ≤ m.toInt) (m1 : m.toInt ≤ 15) (hR : ∀ hp1, bHk 84 bTT hp1 → bFr [(67, 999)] hp0 hp1 → rN hp1 67 0 = m.toInt → hE hp1 → (∀ i, 1 ≤ i → i < 4 → rN hp1 67 i = 0) → R (.inl none) hp1) : xK d 199 [.ref 66, .int m] hp0 R := by
  refine xin (M := am_m199) rfl rfl rfl ?_
  refine xcst 1 (0) ⟨u199, _, rfl⟩ rfl (by decide) (fun z0 h0 => ?_)
  refine xist 2 ⟨u199, _, rfl⟩ rfl rfl ?_
  exact l199z m0 m1 hR 229 _ hp0 (by omega) (by omega) hH (bFr.refl _ _) (fun i g1 g2 => absurd g2 (by omega)) (fun i g1 g2 g3 => absurd g3 (by omega))
