theorem k_adq {d n i j k l : Nat} {T : sT} {hp : amH} {R : xQ} {a b c e : Int32} (hH : bHk 84 bTT hp) (hQ : rqN hp T n) (hb : qdB T n = true) (h105 : (fL (qdB T) (n + 1)).length ≤ 105) (ha : a.toInt = (i : Int)) (hb2 : b.toInt = (j : Int)) (hc : c.toInt = (k : Int)) (he : e.toInt = (l : Int)) (hi : n / 1225 = i) (hj : n / 35 % 35 = j) (hk : n % 35 = k) (hl : nmT T (qR T n) = (l : Int)) (hi2 : i < 35) (hj2 : j < 35) (hk2 : k < 35) (hl2 : l < 35)
    (hR : ∀ hp1, bHk 84 bTT hp1 → bFr wRq hp hp1 → rqN hp1 T (n + 1) → R (.inl none) hp1) : xK d 217 [.ref 66, .int a, .int b, .int c, .int e] hp R := by
  rw [fL_add hb, List.length_append, List.length_singleton] at h105
  obtain ⟨Q1, Q2⟩ := id hQ
  refine xin (M := am_m217) rfl rfl rfl ?_
  refine xald 1 ⟨u217, _, rfl⟩ rfl rfl ?_
  refine xgetI 4 hH ⟨u217, _, rfl⟩ rfl rfl (fun z1 h1 => ?_)
  refine xsip 7 (200) ⟨u217, _, rfl⟩ rfl (by decide) (fun z4 h4 => ?_)
  refine xcmp_ne 10 ⟨u217, _, rfl⟩ rfl (fun c7 => ?_) (fun c7 => ?_)
  · refine xald 12 ⟨u217, _, rfl⟩ rfl rfl ?_
    refine xgetR 15 76 hH ⟨u217, _, rfl⟩ rfl rfl ?_
    refine xcst 16 (4) ⟨u217, _, rfl⟩ rfl (by decide) (fun z15 h15 => ?_)
    refine xald 17 ⟨u217, _, rfl⟩ rfl rfl ?_
    refine xgetI 20 hH ⟨u217, _, rfl⟩ rfl rfl (fun z17 h17 => ?_)
    refine xmul 21 (4 * Int32.toInt z17) ⟨u217, _, rfl⟩ rfl (by rw [h15]) (by omega) (by omega) (fun z20 h20 => ?_)
    refine xild 22 ⟨u217, _, rfl⟩ rfl rfl ?_
    refine xiast 23 (z20).toInt.toNat hH ⟨u217, _, rfl⟩ rfl (by decide) rfl (by omega) (by omega) (by omega) (by omega) (fun hp22 hH22 U22 => ?_)
    have s22 := U22.1
    have n22_66_14 : rN hp22 (66) 14 = rN hp (66) 14 := rU_ne U22 (by omega)
    refine xald 24 ⟨u217, _, rfl⟩ rfl rfl ?_
    refine xgetR 27 76 hH22 ⟨u217, _, rfl⟩ rfl rfl ?_
    refine xcst 28 (4) ⟨u217, _, rfl⟩ rfl (by decide) (fun z27 h27 => ?_)
    refine xald 29 ⟨u217, _, rfl⟩ rfl rfl ?_
    refine xgetI 32 hH22 ⟨u217, _, rfl⟩ rfl rfl (fun z29 h29 => ?_)
    refine xmul 33 (4 * Int32.toInt z29) ⟨u217, _, rfl⟩ rfl (by rw [h27]) (by omega) (by omega) (fun z32 h32 => ?_)
    refine xcst 34 (1) ⟨u217, _, rfl⟩ rfl (by decide) (fun z33 h33 => ?_)
    refine xadd 35 _ ⟨u217, _, rfl⟩ rfl rfl (by omega) (by omega) (fun z34 h34 => ?_)
    refine xild 36 ⟨u217, _, rfl⟩ rfl rfl ?_
    refine xiast 37 (z34).toInt.toNat hH22 ⟨u217, _, rfl⟩ rfl (by decide) rfl (by omega) (by omega) (by omega) (by omega) (fun hp36 hH36 U36 => ?_)
    have s36 := U36.1
    have n36_66_14 : rN hp36 (66) 14 = rN hp22 (66) 14 := rU_ne U36 (by omega)
    refine xald 38 ⟨u217, _, rfl⟩ rfl rfl ?_
    refine xgetR 41 76 hH36 ⟨u217, _, rfl⟩ rfl rfl ?_
    refine xcst 42 (4) ⟨u217, _, rfl⟩ rfl (by decide) (fun z41 h41 => ?_)
    refine xald 43 ⟨u217, _, rfl⟩ rfl rfl ?_
    refine xgetI 46 hH36 ⟨u217, _, rfl⟩ rfl rfl (fun z43 h43 => ?_)
    refine xmul 47 (4 * Int32.toInt z43) ⟨u217, _, rfl⟩ rfl (by rw [h41]) (by omega) (by omega) (fun z46 h46 => ?_)
    refine xcst 48 (2) ⟨u217, _, rfl⟩ rfl (by decide) (fun z47 h47 => ?_)
    refine xadd 49 _ ⟨u217, _, rfl⟩ rfl rfl (by omega) (by omega) (fun z48 h48 => ?_)
    refine xild 50 ⟨u217, _, rfl⟩ rfl rfl ?_
    refine xiast 51 (z48).toInt.toNat hH36 ⟨u217, _, rfl⟩ rfl (by decide) rfl (by omega) (by omega) (by omega) (by omega) (fun hp50 hH50 U50 => ?_)
    have s50 := U50.1
    have n50_66_14 : rN hp50 (66) 14 = rN hp36 (66) 14 := rU_ne U50 (by omega)
    refine xald 52 ⟨u217, _, rfl⟩ rfl rfl ?_
    refine xgetR 55 76 hH50 ⟨u217, _, rfl⟩ rfl rfl ?_
    refine xcst 56 (4) ⟨u217, _, rfl⟩ rfl (by decide) (fun z55 h55 => ?_)
    refine xald 57 ⟨u217, _, rfl⟩ rfl rfl ?_
    refine xgetI 60 hH50 ⟨u217, _, rfl⟩ rfl rfl (fun z57 h57 => ?_)
    refine xmul 61 (4 * Int32.toInt z57) ⟨u217, _, rfl⟩ rfl (by rw [h55]) (by omega) (by omega) (fun z60 h60 => ?_)
    refine xcst 62 (3) ⟨u217, _, rfl⟩ rfl (by decide) (fun z61 h61 => ?_)
    refine xadd 63 _ ⟨u217, _, rfl⟩ rfl rfl (by omega) (by omega) (fun z62 h62 => ?_)
    refine xild2 65 ⟨u217, _, rfl⟩ rfl rfl ?_
    refine xiast 66 (z62).toInt.toNat hH50 ⟨u217, _, rfl⟩ rfl (by decide) rfl (by omega) (by omega) (by omega) (by omega) (fun hp65 hH65 U65 => ?_)
    have s65 := U65.1
    have n65_66_14 : rN hp65 (66) 14 = rN hp50 (66) 14 := rU_ne U65 (by omega)
    refine xald 67 ⟨u217, _, rfl⟩ rfl rfl ?_
    refine xdup 68 ⟨u217, _, rfl⟩ rfl rfl ?_
    refine xgetI 71 hH65 ⟨u217, _, rfl⟩ rfl rfl (fun z68 h68 => ?_)
    refine xcst 72 (1) ⟨u217, _, rfl⟩ rfl (by decide) (fun z71 h71 => ?_)
    refine xadd 73 _ ⟨u217, _, rfl⟩ rfl rfl (by omega) (by omega) (fun z72 h72 => ?_)
    refine xputI 76 hH65 ⟨u217, _, rfl⟩ rfl rfl ⟨rfl, rfl⟩ (by omega) (by omega) (fun hp73 hH73 U73 => ?_)
    have s73 := U73.1
    refine xretV ⟨u217, _, rfl⟩ rfl (hR hp73 hH73 (((((rU_fr U22 (bIn_all (by decide) _)).trans (rU_fr U36 (bIn_all (by decide) _))).trans (rU_fr U50 (bIn_all (by decide) _))).trans (rU_fr U65 (bIn_all (by decide) _))).trans (rU_fr U73 (by decide))) ⟨by rw [fL_add hb, List.length_append, List.length_singleton]; omega, fun q hq => ?_⟩)
    rw [fL_add hb, List.length_append, List.length_singleton] at hq
    rw [fL_add hb]
    have u22 := U22.1
    have u36 := U36.1
    have u50 := U50.1
    have u65 := U65.1
    by_cases g : q = (fL (qdB T) n).length
    · subst g
      rw [gd_end, hi, hj, hk, hl]
      refine ⟨?_, ?_, ?_, ?_⟩
      · rw [rU_ne U73 (by omega), rU_ne U65 (by omega), rU_ne U50 (by omega), rU_ne U36 (by omega), show 4 * (fL (qdB T) n).length = z20.toInt.toNat by omega, u22]; exact ha
      · rw [rU_ne U73 (by omega), rU_ne U65 (by omega), rU_ne U50 (by omega), show 4 * (fL (qdB T) n).length + 1 = z34.toInt.toNat by omega, u36]; exact hb2
      · rw [rU_ne U73 (by omega), rU_ne U65 (by omega), show 4 * (fL (qdB T) n).length + 2 = z48.toInt.toNat by omega, u50]; exact hc
      · rw [rU_ne U73 (by omega), show 4 * (fL (qdB T) n).length + 3 = z62.toInt.toNat by omega, u65]; exact he
    · rw [gd_app (by omega)]
      have k1 := Q2 q (by omega)
      rw [rU_ne U73 (by omega), rU_ne U65 (by omega), rU_ne U50 (by omega), rU_ne U36 (by omega), rU_ne U22 (by omega), rU_ne U73 (by omega), rU_ne U65 (by omega), rU_ne U50 (by omega), rU_ne U36 (by omega), rU_ne U22 (by omega), rU_ne U73 (by omega), rU_ne U65 (by omega), rU_ne U50 (by omega), rU_ne U36 (by omega), rU_ne U22 (by omega), rU_ne U73 (by omega), rU_ne U65 (by omega), rU_ne U50 (by omega), rU_ne U36 (by omega), rU_ne U22 (by omega)]
      exact k1
  · omega
