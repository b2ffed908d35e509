/-! ===== boards copied; loads with what comes of them ===== -/
theorem u2 : bUp 0 am_m2.1 = true := by decide +kernel
section XCP
variable {M : amM} {pc a' d : Nat} {L : List (Option Value)} {hp : amH} {Q : xQ}
theorem xacpy (q N : Nat) {s t : Nat} {i : _} {n dp sp : Int32} (hH : bHk 84 bTT hp) (h : xI M pc (.invokestatic i) a' 6) (e : q = pc + 3) (hs : s < 84) (ht : t < 84) (hTs : bTT s = some (32, N, [.inl (0, 4294967295)])) (hTt : bTT t = some (32, N, [.inl (0, 4294967295)])) (hsp : sp.toInt = 0) (hdp : dp.toInt = 0) (hn : n.toInt = (N : Int))
    (hw : ∀ hp1, bHk 84 bTT hp1 → bFx [t] hp hp1 → (∀ i, i < N → rN hp1 t i = rN hp s i) → xV d M q L [] hp1 Q) : xV d M pc L [.int n, .int dp, .ref t, .int sp, .ref s] hp Q := by
  obtain ⟨ws, h1, h2, h3⟩ := r_row hH hs hTs
  obtain ⟨wt, g1, g2, -⟩ := r_row hH ht hTt
  obtain ⟨k1, k2, k3⟩ := r_set hH hTt (w := ws) g1 h2
  have e1 : sp = 0 := Int32.toInt_inj.mp hsp
  have e2 : dp = 0 := Int32.toInt_inj.mp hdp
  subst e1 e2
  have e3 : n.toNatClampNeg = N := by rw [Int32.toNatClampNeg, hn, Int.toNat_natCast]
  have hcp : (wt.map Value.int).take 0 ++ (((ws.map Value.int).drop 0).take N ++ (wt.map Value.int).drop (0 + N)) = ws.map Value.int := by
    rw [List.take_zero, List.nil_append, List.drop_zero, List.take_of_length_le (by rw [List.length_map]; omega), Nat.zero_add, List.drop_eq_nil_of_le (by rw [List.length_map]; omega), List.append_nil]
  have z0 : (0 : Int32).toNatClampNeg = 0 := by decide
  have hn0 : ¬ n < 0 := fun z => by
    have g := Int32.lt_iff_toInt_lt.mp z
    have z1 : (0 : Int32).toInt = 0 := by decide
    omega
  refine xstep h (fun cl hl => ⟨cl, ?_, hl⟩) (hw _ k1 (fun c k hc => k2 c k ?_) (fun i hi => by rw [k3 i hi, h3 i hi]))
  · subst e
    simp only [amDo, if_true, amCopy, h1, g1, z0, e3, hcp]
    rw [if_pos ⟨trivial, trivial, by decide, by decide, hn0, by rw [List.length_map]; omega, by rw [List.length_map]; omega, by decide⟩]
  · have hc : ¬ t = c := fun z => hc (by rw [z]; simp)
    simp [bIn, show Nat.beq t c = false from by cases e : Nat.beq t c; rfl; exact absurd (Nat.eq_of_beq_eq_true e) hc]
end XCP
/-- a board is copied -/
theorem k_cpB {d : Nat} {hp : amH} {R : xQ} {o o2 V : Nat} {T : sT} (ho : bo o) (ho2 : bo o2) (hne : ¬ o = o2) (hH : bHk 84 bTT hp) (hB : bdOk hp o2 V T) (hR : ∀ hp1, bHk 84 bTT hp1 → bFx [o, o + 1, o + 3] hp hp1 → bdOk hp1 o V T → rN hp1 o 1 = 0 → R (.inl none) hp1) : xK d 2 [.ref o, .ref o2] hp R := by
  have q := b_pts hH ho
  have q2 := b_pts hH ho2
  refine xin (M := am_m2) rfl rfl (by unfold xAv; simp [amOk, bo_lt ho, bo_lt ho2, Value.category]) ?_
  refine xald 1 ⟨u2, _, rfl⟩ rfl rfl ?_
  refine xald 2 ⟨u2, _, rfl⟩ rfl rfl ?_
  refine xgetC 5 hH ⟨u2, _, rfl⟩ rfl (bo_lt ho2) (by decide) (bo_T ho2) rfl (by decide) (fun z2 h2 => ?_)
  refine xputC 8 hH ⟨u2, _, rfl⟩ rfl (bo_lt ho) (by decide) (bo_T ho) rfl (by decide) ⟨rfl, rfl⟩ (by omega) (by omega) (fun hp5 hH5 U5 => ?_)
  refine xald 9 ⟨u2, _, rfl⟩ rfl rfl ?_
  refine xcst 10 (0) ⟨u2, _, rfl⟩ rfl (by decide) (fun z9 h9 => ?_)
  refine xputC 13 hH5 ⟨u2, _, rfl⟩ rfl (bo_lt ho) (by decide) (bo_T ho) rfl (by decide) ⟨rfl, rfl⟩ (by omega) (by omega) (fun hp10 hH10 U10 => ?_)
  refine xald 14 ⟨u2, _, rfl⟩ rfl rfl ?_
  refine xgetD 17 (o2 + 1) hH10 ⟨u2, _, rfl⟩ rfl (bo_lt ho2) (by decide) (bo_T ho2) rfl (by decide) ?_
  refine xcst 18 (0) ⟨u2, _, rfl⟩ rfl (by decide) (fun z17 h17 => ?_)
  refine xald 19 ⟨u2, _, rfl⟩ rfl rfl ?_
  refine xgetD 22 (o + 1) hH10 ⟨u2, _, rfl⟩ rfl (bo_lt ho) (by decide) (bo_T ho) rfl (by decide) ?_
  refine xcst 23 (0) ⟨u2, _, rfl⟩ rfl (by decide) (fun z22 h22 => ?_)
  refine xald 24 ⟨u2, _, rfl⟩ rfl rfl ?_
  refine xgetD 27 (o + 1) hH10 ⟨u2, _, rfl⟩ rfl (bo_lt ho) (by decide) (bo_T ho) rfl (by decide) ?_
  refine xlen 28 hH10 ⟨u2, _, rfl⟩ rfl (bo_lt1 ho) (bo_T1 ho) (by decide) (by decide) (fun z27 h27 => ?_)
  refine xacpy 31 225 hH10 ⟨u2, _, rfl⟩ rfl (bo_lt1 ho2) (bo_lt1 ho) (bo_T1 ho2) (bo_T1 ho) (by omega) (by omega) (by omega) (fun hp28 hH28 F28 E28 => ?_)
  refine xald 32 ⟨u2, _, rfl⟩ rfl rfl ?_
  refine xgetD 35 (o2 + 3) hH28 ⟨u2, _, rfl⟩ rfl (bo_lt ho2) (by decide) (bo_T ho2) rfl (by decide) ?_
  refine xcst 36 (0) ⟨u2, _, rfl⟩ rfl (by decide) (fun z35 h35 => ?_)
  refine xald 37 ⟨u2, _, rfl⟩ rfl rfl ?_
  refine xgetD 40 (o + 3) hH28 ⟨u2, _, rfl⟩ rfl (bo_lt ho) (by decide) (bo_T ho) rfl (by decide) ?_
  refine xcst 41 (0) ⟨u2, _, rfl⟩ rfl (by decide) (fun z40 h40 => ?_)
  refine xald 42 ⟨u2, _, rfl⟩ rfl rfl ?_
  refine xgetD 45 (o + 3) hH28 ⟨u2, _, rfl⟩ rfl (bo_lt ho) (by decide) (bo_T ho) rfl (by decide) ?_
  refine xlen 46 hH28 ⟨u2, _, rfl⟩ rfl (bo_lt3 ho) (bo_T3 ho) (by decide) (by decide) (fun z45 h45 => ?_)
  refine xacpy 49 15 hH28 ⟨u2, _, rfl⟩ rfl (bo_lt3 ho2) (bo_lt3 ho) (bo_T3 ho2) (bo_T3 ho) (by omega) (by omega) (by omega) (fun hp46 hH46 F46 E46 => ?_)
  have u5 := U5.1
  have u10 := U10.1
  have bb : o = 3 ∧ o2 = 8 ∨ o = 8 ∧ o2 = 3 := by omega
  refine xretV ⟨u2, _, rfl⟩ rfl (hR hp46 hH46 ((((bFx_U U5 (by simp)).trans (bFx_U U10 (by simp))).trans (F28.mono (by simp))).trans (F46.mono (by simp))) ⟨?_, hB.2.1, fun u v hu hv => ?_, hB.2.2.2.1, fun p hp => ?_⟩ ?_)
  · rw [bFx_n F46 (by simp), bFx_n F28 (by simp), rU_ne U10 (by omega), u5, h2]
    exact hB.1
  · rw [bFx_n F46 (by simp), E28 _ (by omega), rU_ne U10 (by omega), rU_ne U5 (by omega)]
    exact hB.2.2.1 u v hu hv
  · rw [E46 p hp, bFx_n F28 (by simp; omega), rU_ne U10 (by omega), rU_ne U5 (by omega)]
    exact hB.2.2.2.2 p hp
  · rw [bFx_n F46 (by simp), bFx_n F28 (by simp), u10]
    exact h9
