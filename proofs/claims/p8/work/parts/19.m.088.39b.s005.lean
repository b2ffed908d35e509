theorem k_qpE {d V q : Nat} {T : sT} {hp : amH} {R : xQ} {a : Int32} (hH : bHk 84 bTT hp) (hT : sOk V T) (hL : rlN hp T 225) (hQ : rqN hp T 42875) (hq : q < nQ T) (ha : a.toInt = (q : Int)) (hR : ∀ z : Int32, z.toInt = ((qU T (cQ2 T q) : Nat) : Int) → R (.inl (some (.int z))) hp) : xK d 218 [.ref 66, .int a] hp R := by
  have h105 := q105 hT
  have l35 := trL_35 hT 225
  have hq2 : q < (fL (qdB T) 42875).length := hq
  obtain ⟨hk, -⟩ := rq_get hT hQ hq
  have hl := qL_lt hT hq
  have LM : ∀ t, t < (trL T 225).length → rN hp 75 t = ((mN T t : Nat) : Int) := fun t ht => (hL.2 t ht).2.2.2
  obtain ⟨g1, g2, g3⟩ := fL_get (B := qdB T) 42875 q hq
  have hu := qU_4 hT g2 g1
  have k0 := hk 0 (by omega)
  have k1 := hk 1 (by omega)
  have k2 := hk 2 (by omega)
  have k3 := hk 3 (by omega)
  have l0 := (hl 0 (by omega)).1
  have l1 := (hl 1 (by omega)).1
  have l2 := (hl 2 (by omega)).1
  have l3 := (hl 3 (by omega)).1
  have m0 := (mN_lt hT l0).1
  have m1 := (mN_lt hT l1).1
  have m2 := (mN_lt hT l2).1
  have m3' := (mN_lt hT l3).1
  have hu : mN T ((qL T (cQ2 T q)).getD 0 0) ||| mN T ((qL T (cQ2 T q)).getD 1 0) ||| mN T ((qL T (cQ2 T q)).getD 2 0) ||| mN T ((qL T (cQ2 T q)).getD 3 0) = qU T (cQ2 T q) := hu
  generalize (qL T (cQ2 T q)).getD 0 0 = t0 at *
  generalize (qL T (cQ2 T q)).getD 1 0 = t1 at *
  generalize (qL T (cQ2 T q)).getD 2 0 = t2 at *
  generalize (qL T (cQ2 T q)).getD 3 0 = t3 at *
  rw [Nat.add_zero] at k0
  refine xin (M := am_m218) rfl rfl rfl ?_
  refine xald 1 ⟨u218, _, rfl⟩ rfl rfl ?_
  refine xgetR 4 75 hH ⟨u218, _, rfl⟩ rfl rfl ?_
  refine xald 5 ⟨u218, _, rfl⟩ rfl rfl ?_
  refine xgetR 8 76 hH ⟨u218, _, rfl⟩ rfl rfl ?_
  refine xcst 9 (4) ⟨u218, _, rfl⟩ rfl (by decide) (fun z8 h8 => ?_)
  refine xild 10 ⟨u218, _, rfl⟩ rfl rfl ?_
  refine xmul 11 (4 * Int32.toInt a) ⟨u218, _, rfl⟩ rfl (by rw [h8]) (by omega) (by omega) (fun z10 h10 => ?_)
  refine xiald 12 (z10).toInt.toNat hH ⟨u218, _, rfl⟩ rfl (by decide) rfl (by omega) (by omega) (fun z11 h11 => ?_)
  rw [show z10.toInt.toNat = 4 * q by omega, k0] at h11
  refine xiald 13 (z11).toInt.toNat hH ⟨u218, _, rfl⟩ rfl (by decide) rfl (by omega) (by omega) (fun z12 h12 => ?_)
  rw [show z11.toInt.toNat = t0 by omega, LM t0 l0] at h12
  refine xald 14 ⟨u218, _, rfl⟩ rfl rfl ?_
  refine xgetR 17 75 hH ⟨u218, _, rfl⟩ rfl rfl ?_
  refine xald 18 ⟨u218, _, rfl⟩ rfl rfl ?_
  refine xgetR 21 76 hH ⟨u218, _, rfl⟩ rfl rfl ?_
  refine xcst 22 (4) ⟨u218, _, rfl⟩ rfl (by decide) (fun z21 h21 => ?_)
  refine xild 23 ⟨u218, _, rfl⟩ rfl rfl ?_
  refine xmul 24 (4 * Int32.toInt a) ⟨u218, _, rfl⟩ rfl (by rw [h21]) (by omega) (by omega) (fun z23 h23 => ?_)
  refine xcst 25 (1) ⟨u218, _, rfl⟩ rfl (by decide) (fun z24 h24 => ?_)
  refine xadd 26 _ ⟨u218, _, rfl⟩ rfl rfl (by omega) (by omega) (fun z25 h25 => ?_)
  refine xiald 27 (z25).toInt.toNat hH ⟨u218, _, rfl⟩ rfl (by decide) rfl (by omega) (by omega) (fun z26 h26 => ?_)
  rw [show z25.toInt.toNat = 4 * q + 1 by omega, k1] at h26
  refine xiald 28 (z26).toInt.toNat hH ⟨u218, _, rfl⟩ rfl (by decide) rfl (by omega) (by omega) (fun z27 h27 => ?_)
  rw [show z26.toInt.toNat = t1 by omega, LM t1 l1] at h27
  refine xor_ 29 ⟨u218, _, rfl⟩ rfl ?_
  have o1 := i_or h12 h27 m0 m1
  refine xald 30 ⟨u218, _, rfl⟩ rfl rfl ?_
  refine xgetR 33 75 hH ⟨u218, _, rfl⟩ rfl rfl ?_
  refine xald 34 ⟨u218, _, rfl⟩ rfl rfl ?_
  refine xgetR 37 76 hH ⟨u218, _, rfl⟩ rfl rfl ?_
  refine xcst 38 (4) ⟨u218, _, rfl⟩ rfl (by decide) (fun z37 h37 => ?_)
  refine xild 39 ⟨u218, _, rfl⟩ rfl rfl ?_
  refine xmul 40 (4 * Int32.toInt a) ⟨u218, _, rfl⟩ rfl (by rw [h37]) (by omega) (by omega) (fun z39 h39 => ?_)
  refine xcst 41 (2) ⟨u218, _, rfl⟩ rfl (by decide) (fun z40 h40 => ?_)
  refine xadd 42 _ ⟨u218, _, rfl⟩ rfl rfl (by omega) (by omega) (fun z41 h41 => ?_)
  refine xiald 43 (z41).toInt.toNat hH ⟨u218, _, rfl⟩ rfl (by decide) rfl (by omega) (by omega) (fun z42 h42 => ?_)
  rw [show z41.toInt.toNat = 4 * q + 2 by omega, k2] at h42
  refine xiald 44 (z42).toInt.toNat hH ⟨u218, _, rfl⟩ rfl (by decide) rfl (by omega) (by omega) (fun z43 h43 => ?_)
  rw [show z42.toInt.toNat = t2 by omega, LM t2 l2] at h43
  refine xor_ 45 ⟨u218, _, rfl⟩ rfl ?_
  have o2 := i_or o1.1 h43 o1.2 m2
  refine xald 46 ⟨u218, _, rfl⟩ rfl rfl ?_
  refine xgetR 49 75 hH ⟨u218, _, rfl⟩ rfl rfl ?_
  refine xald 50 ⟨u218, _, rfl⟩ rfl rfl ?_
  refine xgetR 53 76 hH ⟨u218, _, rfl⟩ rfl rfl ?_
  refine xcst 54 (4) ⟨u218, _, rfl⟩ rfl (by decide) (fun z53 h53 => ?_)
  refine xild 55 ⟨u218, _, rfl⟩ rfl rfl ?_
  refine xmul 56 (4 * Int32.toInt a) ⟨u218, _, rfl⟩ rfl (by rw [h53]) (by omega) (by omega) (fun z55 h55 => ?_)
  refine xcst 57 (3) ⟨u218, _, rfl⟩ rfl (by decide) (fun z56 h56 => ?_)
  refine xadd 58 _ ⟨u218, _, rfl⟩ rfl rfl (by omega) (by omega) (fun z57 h57 => ?_)
  refine xiald 59 (z57).toInt.toNat hH ⟨u218, _, rfl⟩ rfl (by decide) rfl (by omega) (by omega) (fun z58 h58 => ?_)
  rw [show z57.toInt.toNat = 4 * q + 3 by omega, k3] at h58
  refine xiald 60 (z58).toInt.toNat hH ⟨u218, _, rfl⟩ rfl (by decide) rfl (by omega) (by omega) (fun z59 h59 => ?_)
  rw [show z58.toInt.toNat = t3 by omega, LM t3 l3] at h59
  refine xor_ 61 ⟨u218, _, rfl⟩ rfl ?_
  have o3 := i_or o2.1 h59 o2.2 m3'
  exact xret ⟨u218, _, rfl⟩ rfl (hR _ (by rw [o3.1, hu]))
