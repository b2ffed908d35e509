/-! ===== ways by hand: back and forth; develop ===== -/
theorem P0_no {hp hp1 : amH} {c : Nat} (hP : P0 hp) (hF : bFr [(c, 999)] hp hp1) (h67 : c = 67 → Vf (rN hp1 67)) (h69 : c = 69 → Vf (rN hp1 69)) (h70 : c = 70 → Vf (rN hp1 70)) (h71 : ¬ c = 71) (h66 : ¬ c = 66) : P0 hp1 := by
  have e : ∀ k i, ¬ k = c → rN hp1 k i = rN hp k i := fun k i h => r_fr hF (bIn_ne h)
  refine ⟨?_, fun z => ?_, fun k hk hk2 => ?_, fun z => ?_⟩
  · by_cases h : c = 67
    · exact h67 h
    · exact Vf_eq (fun i _ => e 67 i (fun z => h z.symm)) hP.1
  · by_cases h : c = 70
    · exact h70 h
    · exact Vf_eq (fun i _ => e 70 i (fun z => h z.symm)) (hP.2.1 (by rw [← e 66 6 (fun z => h66 z.symm)]; exact z))
  · exact Vf_eq (fun i _ => e 71 _ (fun z => h71 z.symm)) (hP.2.2.1 k (by rw [← e 66 5 (fun z => h66 z.symm)]; exact hk) hk2)
  · by_cases h : c = 69
    · exact h69 h
    · exact Vf_eq (fun i _ => e 69 i (fun z => h z.symm)) (hP.2.2.2 (by rw [← e 69 0 (fun z => h z.symm)]; exact z))
theorem k_begin {d : Nat} {hp : amH} {R : xQ} (hH : bHk 84 bTT hp) (hP : P0 hp) (hR : ∀ hp1, bHk 84 bTT hp1 → P0 hp1 → bFr [(69, 999)] hp hp1 → (∀ i, i < 229 → rN hp1 69 i = rN hp 67 i) → R (.inl none) hp1) : xK (d + 1) 201 [.ref 66] hp R := by
  refine xin (M := am_m201) rfl rfl rfl ?_
  refine xald 1 ⟨u201, _, rfl⟩ rfl rfl ?_
  refine xgetR 4 67 hH ⟨u201, _, rfl⟩ rfl rfl ?_
  refine xcst 5 (0) ⟨u201, _, rfl⟩ rfl (by decide) (fun z4 h4 => ?_)
  refine xald 6 ⟨u201, _, rfl⟩ rfl rfl ?_
  refine xgetR 9 69 hH ⟨u201, _, rfl⟩ rfl rfl ?_
  refine xcst 10 (0) ⟨u201, _, rfl⟩ rfl (by decide) (fun z9 h9 => ?_)
  refine xsip 13 (229) ⟨u201, _, rfl⟩ rfl (by decide) (fun z10 h10 => ?_)
  refine xcallS 16 [.ref 67, .int _, .ref 69, .int _, .int _] [] hH ⟨u201, _, rfl⟩ rfl rfl rfl rfl rfl (k_copy 0 0 229 hH (by decide) (by decide) (by decide) rfl rfl (by omega) (by omega) (by omega) (by omega) (by omega) (by decide) (fun hp13 hH13 F13 E13 => ⟨_, rfl, ?_⟩))
  have E : ∀ i, i < 229 → rN hp13 69 i = rN hp 67 i := fun i hi => by rw [E13 i hi, if_pos (by omega), Nat.zero_add, Nat.sub_zero]
  exact xretV ⟨u201, _, rfl⟩ rfl (hR hp13 hH13 (P0_no hP F13 (fun z => absurd z (by decide)) (fun _ => Vf_eq E hP.1) (fun z => absurd z (by decide)) (by decide) (by decide)) F13 E)
theorem k_ends {d : Nat} {hp : amH} {R : xQ} (hH : bHk 84 bTT hp) (hP : P0 hp) (hV : Vf (rN hp 69)) (hR : ∀ hp1, bHk 84 bTT hp1 → P0 hp1 → bFr [(67, 999)] hp hp1 → (∀ i, i < 229 → rN hp1 67 i = rN hp 69 i) → R (.inl none) hp1) : xK (d + 1) 202 [.ref 66] hp R := by
  refine xin (M := am_m202) rfl rfl rfl ?_
  refine xald 1 ⟨u202, _, rfl⟩ rfl rfl ?_
  refine xgetR 4 69 hH ⟨u202, _, rfl⟩ rfl rfl ?_
  refine xcst 5 (0) ⟨u202, _, rfl⟩ rfl (by decide) (fun z4 h4 => ?_)
  refine xald 6 ⟨u202, _, rfl⟩ rfl rfl ?_
  refine xgetR 9 67 hH ⟨u202, _, rfl⟩ rfl rfl ?_
  refine xcst 10 (0) ⟨u202, _, rfl⟩ rfl (by decide) (fun z9 h9 => ?_)
  refine xsip 13 (229) ⟨u202, _, rfl⟩ rfl (by decide) (fun z10 h10 => ?_)
  refine xcallS 16 [.ref 69, .int _, .ref 67, .int _, .int _] [] hH ⟨u202, _, rfl⟩ rfl rfl rfl rfl rfl (k_copy 0 0 229 hH (by decide) (by decide) (by decide) rfl rfl (by omega) (by omega) (by omega) (by omega) (by omega) (by decide) (fun hp13 hH13 F13 E13 => ⟨_, rfl, ?_⟩))
  have E : ∀ i, i < 229 → rN hp13 67 i = rN hp 69 i := fun i hi => by rw [E13 i hi, if_pos (by omega), Nat.zero_add, Nat.sub_zero]
  exact xretV ⟨u202, _, rfl⟩ rfl (hR hp13 hH13 (P0_no hP F13 (fun _ => Vf_eq E hV) (fun z => absurd z (by decide)) (fun z => absurd z (by decide)) (by decide) (by decide)) F13 E)
theorem p339_s : bSem amGG P0 84 bTT 339 (sPub 0 9) := by
  refine pub0 (N := am_m339) rfl (fun hp hH hP => ?_)
  refine xin (M := am_m339) rfl rfl rfl ?_
  have G := bFr.refl wM hp
  have q1 := hP.1.1
  have q2 := hP.1.2.1
  refine xald 1 ⟨u339, _, rfl⟩ rfl rfl ?_
  refine xcst 2 (0) ⟨u339, _, rfl⟩ rfl (by decide) (fun z1 h1 => ?_)
  refine xputI 5 hH ⟨u339, _, rfl⟩ rfl rfl ⟨rfl, rfl⟩ (by omega) (by omega) (fun hp2 hH2 U2 => ?_)
  have G2 := G.trans (rU_fr U2 (W := wM) (by decide))
  have hP2 := P0_W (W := [(66, 7)]) (by decide) (rU_fr U2 rfl) hP
  have e2 : rN hp2 67 0 = rN hp 67 0 := rU_ne U2 (by omega)
  refine xald 6 ⟨u339, _, rfl⟩ rfl rfl ?_
  refine xgetI 9 hH2 ⟨u339, _, rfl⟩ rfl rfl (fun z6 h6 => ?_)
  refine xif_ne 12 ⟨u339, _, rfl⟩ rfl (fun c9 => ?_) (fun c9 => ?_)
  · refine xald 15 ⟨u339, _, rfl⟩ rfl rfl ?_
    refine xdup 16 ⟨u339, _, rfl⟩ rfl rfl ?_
    refine xgetI 19 hH2 ⟨u339, _, rfl⟩ rfl rfl (fun z16 h16 => ?_)
    refine xcst 20 (1) ⟨u339, _, rfl⟩ rfl (by decide) (fun z19 h19 => ?_)
    obtain ⟨m, hm⟩ : ∃ m : Nat, rN hp2 66 5 = (m : Int) + 1 := ⟨(rN hp2 66 5 - 1).toNat, by have := rb_fld hH2 (f := 5) (lo := 2147483648) (hi := 2147483658) rfl; omega⟩
    have hb := rb_fld hH2 (f := 5) (lo := 2147483648) (hi := 2147483658) rfl
    refine xsub 21 _ ⟨u339, _, rfl⟩ rfl rfl (by omega) (by omega) (fun z20 h20 => ?_)
    refine xputI 24 hH2 ⟨u339, _, rfl⟩ rfl rfl ⟨rfl, rfl⟩ (by omega) (by omega) (fun hp21 hH21 U21 => ?_)
    have G21 := G2.trans (rU_fr U21 (W := wM) (by decide))
    have e21 : rN hp21 67 0 = rN hp2 67 0 := rU_ne U21 (by omega)
    have u21 : rN hp21 66 5 = (m : Int) := by rw [U21.1]; omega
    have hP21 : P0 hp21 := by
      have e : ∀ c i, ¬ (c = 66 ∧ i = 5) → rN hp21 c i = rN hp2 c i := fun c i h => rU_ne U21 h
      exact ⟨Vf_eq (fun i _ => e 67 i (by omega)) hP2.1, fun z => Vf_eq (fun i _ => e 70 i (by omega)) (hP2.2.1 (by rw [← e 66 6 (by omega)]; exact z)), fun k hk hk2 => Vf_eq (fun i _ => e 71 _ (by omega)) (hP2.2.2.1 k (by omega) hk2), fun z => Vf_eq (fun i _ => e 69 i (by omega)) (hP2.2.2.2 (by rw [← e 69 0 (by omega)]; exact z))⟩
    refine xald 25 ⟨u339, _, rfl⟩ rfl rfl ?_
    refine xgetR 28 71 hH21 ⟨u339, _, rfl⟩ rfl rfl ?_
    refine xsip 31 (229) ⟨u339, _, rfl⟩ rfl (by decide) (fun z28 h28 => ?_)
    refine xald 32 ⟨u339, _, rfl⟩ rfl rfl ?_
    refine xgetI 35 hH21 ⟨u339, _, rfl⟩ rfl rfl (fun z32 h32 => ?_)
    refine xmul 36 (229 * Int32.toInt z32) ⟨u339, _, rfl⟩ rfl (by rw [h28]) (by omega) (by omega) (fun z35 h35 => ?_)
    refine xald 37 ⟨u339, _, rfl⟩ rfl rfl ?_
    refine xgetR 40 67 hH21 ⟨u339, _, rfl⟩ rfl rfl ?_
    refine xcst 41 (0) ⟨u339, _, rfl⟩ rfl (by decide) (fun z40 h40 => ?_)
    refine xsip 44 (229) ⟨u339, _, rfl⟩ rfl (by decide) (fun z41 h41 => ?_)
    refine xcallS 47 [.ref 71, .int _, .ref 67, .int _, .int _] [] hH21 ⟨u339, _, rfl⟩ rfl rfl rfl rfl rfl (k_copy (229 * m) 0 229 hH21 (by decide) (by decide) (by decide) rfl rfl (by omega) (by omega) (by omega) (by omega) (by omega) (by decide) (fun hp44 hH44 F44 E44 => ⟨_, rfl, ?_⟩))
    have G44 := G21.trans (bFr_sub (W1 := wM) F44 (by decide))
    have hV : Vf (fun i => rN hp2 71 (229 * m + i)) := hP2.2.2.1 m (by omega) (by omega)
    have hP44 : P0 hp44 := P0_no hP21 F44 (fun _ => Vf_eq (fun i hi => by
      rw [E44 i hi, if_pos (by omega), Nat.sub_zero]
      exact rU_ne U21 (by omega)) hV) (fun z => absurd z (by decide)) (fun z => absurd z (by decide)) (by decide) (by decide)
    refine xald 48 ⟨u339, _, rfl⟩ rfl rfl ?_
    refine xgetI 51 hH44 ⟨u339, _, rfl⟩ rfl rfl (fun z48 h48 => ?_)
    exact xret ⟨u339, _, rfl⟩ rfl ⟨⟨_, rfl⟩, hH44, hP44, G44⟩
  · refine xcst 13 (-1) ⟨u339, _, rfl⟩ rfl (by decide) (fun z12 h12 => ?_)
    exact xret ⟨u339, _, rfl⟩ rfl ⟨⟨_, rfl⟩, hH2, hP2, G2⟩
theorem p340_s : bSem amGG P0 84 bTT 340 (sPub 0 9) := by
  refine pub0 (N := am_m340) rfl (fun hp hH hP => ?_)
  refine xin (M := am_m340) rfl rfl rfl ?_
  have G := bFr.refl wM hp
  have q1 := hP.1.1
  have q2 := hP.1.2.1
  refine xald 1 ⟨u340, _, rfl⟩ rfl rfl ?_
  refine xcst 2 (0) ⟨u340, _, rfl⟩ rfl (by decide) (fun z1 h1 => ?_)
  refine xputI 5 hH ⟨u340, _, rfl⟩ rfl rfl ⟨rfl, rfl⟩ (by omega) (by omega) (fun hp2 hH2 U2 => ?_)
  have G2 := G.trans (rU_fr U2 (W := wM) (by decide))
  have hP2 := P0_W (W := [(66, 7)]) (by decide) (rU_fr U2 rfl) hP
  have e2 : rN hp2 67 0 = rN hp 67 0 := rU_ne U2 (by omega)
  refine xald 6 ⟨u340, _, rfl⟩ rfl rfl ?_
  refine xgetR 9 67 hH2 ⟨u340, _, rfl⟩ rfl rfl ?_
  refine xcst 10 (0) ⟨u340, _, rfl⟩ rfl (by decide) (fun z9 h9 => ?_)
  refine xald 11 ⟨u340, _, rfl⟩ rfl rfl ?_
  refine xgetR 14 70 hH2 ⟨u340, _, rfl⟩ rfl rfl ?_
  refine xcst 15 (0) ⟨u340, _, rfl⟩ rfl (by decide) (fun z14 h14 => ?_)
  refine xsip 18 (229) ⟨u340, _, rfl⟩ rfl (by decide) (fun z15 h15 => ?_)
  refine xcallS 21 [.ref 67, .int _, .ref 70, .int _, .int _] [] hH2 ⟨u340, _, rfl⟩ rfl rfl rfl rfl rfl (k_copy 0 0 229 hH2 (by decide) (by decide) (by decide) rfl rfl (by omega) (by omega) (by omega) (by omega) (by omega) (by decide) (fun hp18 hH18 F18 E18 => ⟨_, rfl, ?_⟩))
  have G18 := G2.trans (bFr_sub (W1 := wM) F18 (by decide))
  have E : ∀ i, i < 229 → rN hp18 70 i = rN hp2 67 i := fun i hi => by rw [E18 i hi, if_pos (by omega), Nat.zero_add, Nat.sub_zero]
  have hP18 : P0 hp18 := P0_no hP2 F18 (fun z => absurd z (by decide)) (fun z => absurd z (by decide)) (fun _ => Vf_eq E hP2.1) (by decide) (by decide)
  refine xald 22 ⟨u340, _, rfl⟩ rfl rfl ?_
  refine xcst 23 (1) ⟨u340, _, rfl⟩ rfl (by decide) (fun z22 h22 => ?_)
  have m1 : z22 = 1 := x_eq.mpr h22
  subst m1
  refine xputI 26 hH18 ⟨u340, _, rfl⟩ rfl rfl ⟨rfl, rfl⟩ (by omega) (by omega) (fun hp23 hH23 U23 => ?_)
  have G23 := G18.trans (rU_fr U23 (W := wM) (by decide))
  have hP23 : P0 hp23 := by
    have e : ∀ c i, ¬ (c = 66 ∧ i = 6) → rN hp23 c i = rN hp18 c i := fun c i h => rU_ne U23 h
    exact ⟨Vf_eq (fun i _ => e 67 i (by omega)) hP18.1, fun _ => Vf_eq (fun i hi => (e 70 i (by omega)).trans (E i hi)) hP2.1, fun k hk hk2 => Vf_eq (fun i _ => e 71 _ (by omega)) (hP18.2.2.1 k (by rw [← e 66 5 (by omega)]; exact hk) hk2), fun z => Vf_eq (fun i _ => e 69 i (by omega)) (hP18.2.2.2 (by rw [← e 69 0 (by omega)]; exact z))⟩
  refine xald 27 ⟨u340, _, rfl⟩ rfl rfl ?_
  refine xcall 30 [.ref 66] [] hH23 ⟨u340, _, rfl⟩ rfl rfl rfl rfl rfl (k_tm hH23 hP23 (fun z27 hp27 hH27 hP27 F27 => ⟨_, rfl, ?_⟩))
  have G27 := G23.trans (bFr_sub (W1 := wM) F27 (by decide))
  have e27 : rN hp27 67 0 = rN hp23 67 0 := r_fr F27 rfl
  have t27 : ∀ u v, tT hp27 u v = tT hp23 u v := fun u v => r_fr F27 rfl
  exact xret ⟨u340, _, rfl⟩ rfl ⟨⟨_, rfl⟩, hH27, hP27, G27⟩
theorem p341_s : bSem amGG P0 84 bTT 341 (sPub 0 9) := by
  refine pub0 (N := am_m341) rfl (fun hp hH hP => ?_)
  refine xin (M := am_m341) rfl rfl rfl ?_
  have G := bFr.refl wM hp
  have q1 := hP.1.1
  have q2 := hP.1.2.1
  refine xald 1 ⟨u341, _, rfl⟩ rfl rfl ?_
  refine xcst 2 (0) ⟨u341, _, rfl⟩ rfl (by decide) (fun z1 h1 => ?_)
  refine xputI 5 hH ⟨u341, _, rfl⟩ rfl rfl ⟨rfl, rfl⟩ (by omega) (by omega) (fun hp2 hH2 U2 => ?_)
  have G2 := G.trans (rU_fr U2 (W := wM) (by decide))
  have hP2 := P0_W (W := [(66, 7)]) (by decide) (rU_fr U2 rfl) hP
  have e2 : rN hp2 67 0 = rN hp 67 0 := rU_ne U2 (by omega)
  refine xald 6 ⟨u341, _, rfl⟩ rfl rfl ?_
  refine xald 7 ⟨u341, _, rfl⟩ rfl rfl ?_
  refine xgetI 10 hH2 ⟨u341, _, rfl⟩ rfl rfl (fun z7 h7 => ?_)
  refine xif_ne 13 ⟨u341, _, rfl⟩ rfl (fun c10 => ?_) (fun c10 => ?_)
  · refine xcst 18 (0) ⟨u341, _, rfl⟩ rfl (by decide) (fun z17 h17 => ?_)
    refine xcst 19 (1) ⟨u341, _, rfl⟩ rfl (by decide) (fun z18 h18 => ?_)
    refine xcall 22 [.ref 66, .int _, .int _] [] hH2 ⟨u341, _, rfl⟩ rfl rfl rfl rfl rfl (k_fails2 hH2 hP2 (by omega) (fun hp19 hH19 hP19 F19 => ⟨_, rfl, ?_⟩))
    have G19 := G2.trans (bFr_sub (W1 := wM) F19 (by decide))
    have e19 : rN hp19 67 0 = rN hp2 67 0 := r_fr F19 rfl
    have t19 : ∀ u v, tT hp19 u v = tT hp2 u v := fun u v => r_fr F19 rfl
    refine xif_eq 25 ⟨u341, _, rfl⟩ rfl (fun c22 => ?_) (fun c22 => ?_)
    · refine xald 28 ⟨u341, _, rfl⟩ rfl rfl ?_
      refine xgetR 31 70 hH19 ⟨u341, _, rfl⟩ rfl rfl ?_
      refine xcst 32 (0) ⟨u341, _, rfl⟩ rfl (by decide) (fun z31 h31 => ?_)
      refine xald 33 ⟨u341, _, rfl⟩ rfl rfl ?_
      refine xgetR 36 67 hH19 ⟨u341, _, rfl⟩ rfl rfl ?_
      refine xcst 37 (0) ⟨u341, _, rfl⟩ rfl (by decide) (fun z36 h36 => ?_)
      refine xsip 40 (229) ⟨u341, _, rfl⟩ rfl (by decide) (fun z37 h37 => ?_)
      refine xcallS 43 [.ref 70, .int _, .ref 67, .int _, .int _] [] hH19 ⟨u341, _, rfl⟩ rfl rfl rfl rfl rfl (k_copy 0 0 229 hH19 (by decide) (by decide) (by decide) rfl rfl (by omega) (by omega) (by omega) (by omega) (by omega) (by decide) (fun hp40 hH40 F40 E40 => ⟨_, rfl, ?_⟩))
      have G40 := G19.trans (bFr_sub (W1 := wM) F40 (by decide))
      have hV : Vf (rN hp19 70) := hP19.2.1 (by
        have q6 : rN hp19 66 6 = rN hp2 66 6 := r_fr F19 rfl
        have := rb_fld hH2 (f := 6) (lo := 2147483648) (hi := 2147483649) rfl
        omega)
      have hP40 : P0 hp40 := P0_no hP19 F40 (fun _ => Vf_eq (fun i hi => by rw [E40 i hi, if_pos (by omega), Nat.zero_add, Nat.sub_zero]) hV) (fun z => absurd z (by decide)) (fun z => absurd z (by decide)) (by decide) (by decide)
      refine xald 44 ⟨u341, _, rfl⟩ rfl rfl ?_
      refine xcst 45 (0) ⟨u341, _, rfl⟩ rfl (by decide) (fun z44 h44 => ?_)
      refine xputI 48 hH40 ⟨u341, _, rfl⟩ rfl rfl ⟨rfl, rfl⟩ (by omega) (by omega) (fun hp45 hH45 U45 => ?_)
      have G45 := G40.trans (rU_fr U45 (W := wM) (by decide))
      have hP45 : P0 hp45 := by
        have e : ∀ c i, ¬ (c = 66 ∧ i = 5) → rN hp45 c i = rN hp40 c i := fun c i h => rU_ne U45 h
        exact ⟨Vf_eq (fun i _ => e 67 i (by omega)) hP40.1, fun z => Vf_eq (fun i _ => e 70 i (by omega)) (hP40.2.1 (by rw [← e 66 6 (by omega)]; exact z)), fun k hk hk2 => by rw [U45.1] at hk; omega, fun z => Vf_eq (fun i _ => e 69 i (by omega)) (hP40.2.2.2 (by rw [← e 69 0 (by omega)]; exact z))⟩
      refine xald 49 ⟨u341, _, rfl⟩ rfl rfl ?_
      refine xcall 52 [.ref 66] [] hH45 ⟨u341, _, rfl⟩ rfl rfl rfl rfl rfl (k_tm hH45 hP45 (fun z49 hp49 hH49 hP49 F49 => ⟨_, rfl, ?_⟩))
      have G49 := G45.trans (bFr_sub (W1 := wM) F49 (by decide))
      have e49 : rN hp49 67 0 = rN hp45 67 0 := r_fr F49 rfl
      have t49 : ∀ u v, tT hp49 u v = tT hp45 u v := fun u v => r_fr F49 rfl
      exact xret ⟨u341, _, rfl⟩ rfl ⟨⟨_, rfl⟩, hH49, hP49, G49⟩
    · refine xcst 26 (0) ⟨u341, _, rfl⟩ rfl (by decide) (fun z25 h25 => ?_)
      exact xret ⟨u341, _, rfl⟩ rfl ⟨⟨_, rfl⟩, hH19, hP19, G19⟩
  · refine xcst 14 (1) ⟨u341, _, rfl⟩ rfl (by decide) (fun z13 h13 => ?_)
    refine xgoto ⟨u341, _, rfl⟩ ?_
    refine xcst 19 (1) ⟨u341, _, rfl⟩ rfl (by decide) (fun z18 h18 => ?_)
    refine xcall 22 [.ref 66, .int _, .int _] [] hH2 ⟨u341, _, rfl⟩ rfl rfl rfl rfl rfl (k_fails2 hH2 hP2 (by omega) (fun hp19 hH19 hP19 F19 => ⟨_, rfl, ?_⟩))
    have G19 := G2.trans (bFr_sub (W1 := wM) F19 (by decide))
    refine xif_eq 25 ⟨u341, _, rfl⟩ rfl (fun c22 => absurd c22 (by omega)) (fun c22 => ?_)
    refine xcst 26 (0) ⟨u341, _, rfl⟩ rfl (by decide) (fun z25 h25 => ?_)
    exact xret ⟨u341, _, rfl⟩ rfl ⟨⟨_, rfl⟩, hH19, hP19, G19⟩
theorem em_two {x k p : Int} (hx : 0 ≤ x) (hxp : x < p) (hk : 0 ≤ k) (hkp : k < p) : (x + k) % p = x + k ∨ (x + k) % p = x + k - p := by
  rcases Int.lt_or_le (x + k) p with h | h
  · exact Or.inl (Int.emod_eq_of_lt (by omega) h)
  · right
    rw [← Int.sub_emod_right, Int.emod_eq_of_lt (by omega) (by omega)]
theorem k_turn2 {d : Nat} {hp : amH} {R : xQ} {a b : Int32} (hH : bHk 84 bTT hp) (hP : P0 hp) (a1 : 0 ≤ a.toInt) (a2 : a.toInt < rN hp 67 0) (b1 : 0 ≤ b.toInt) (b2 : b.toInt < rN hp 67 0) (hR : ∀ z : Int32, (z.toInt = a.toInt + b.toInt ∨ z.toInt = a.toInt + b.toInt - rN hp 67 0) ∧ 0 ≤ z.toInt ∧ z.toInt < rN hp 67 0 → R (.inl (some (.int z))) hp) : xK (d + 1) 233 [.ref 66, .int a, .int b] hp R := by
  have q2 := hP.1.2.1
  refine k_turned hH hP a1 (by omega) b1 (by omega) (fun z ⟨h1, h2, h3⟩ => hR z ⟨?_, h2, h3⟩)
  rcases em_two a1 a2 b1 b2 with g | g
  · exact Or.inl (h1.trans g)
  · exact Or.inr (h1.trans g)
theorem u237 : bUp 0 am_m237.1 = true := by decide +kernel
theorem dv_loop {d : Nat} {hp0 : amH} {R : xQ} {x y z wh : Int32} (x0 : 0 ≤ x.toInt) (x1 : x.toInt < rN hp0 67 0) (y0 : 0 ≤ y.toInt) (y1 : y.toInt < rN hp0 67 0) (z0 : 0 ≤ z.toInt) (z1 : z.toInt < rN hp0 67 0) (hxy : ¬ x.toInt = y.toInt) (hyz : ¬ y.toInt = z.toInt) (hxz : ¬ x.toInt = z.toInt) (hR : (∀ (r : Int32) hp1, bHk 84 bTT hp1 → P0 hp1 → bFr [(67, 999)] hp0 hp1 → rN hp1 67 0 = rN hp0 67 0 → (-1 ≤ r.toInt ∧ r.toInt ≤ 15) → R (.inl (some (.int r))) hp1)) :
    ∀ (j : Nat) (n k : Int32) (v7 v8 v9 : Option Value) (hp : amH), bHk 84 bTT hp → P0 hp → bFr [(67, 999)] hp0 hp → rN hp 67 0 = rN hp0 67 0 → k.toInt + (j : Int) = 15 → 0 ≤ k.toInt → 0 ≤ n.toInt → n.toInt ≤ k.toInt → xV (d + 4) am_m237 19 [some (.ref 66), some (.int x), some (.int y), some (.int z), some (.int n), some (.int wh), some (.int k), v7, v8, v9] [] hp R := by
  intro j
  induction j using Nat.strongRecOn with
  | ind j ih =>
    intro n k v7 v8 v9 hp hH hP hF he hj k0 n0 n1
    have q1 := hP.1.1
    have q2 := hP.1.2.1
    refine xild2 21 ⟨u237, _, rfl⟩ rfl rfl ?_
    refine xald 22 ⟨u237, _, rfl⟩ rfl rfl ?_
    refine xcall 25 [.ref 66] [.int _] hH ⟨u237, _, rfl⟩ rfl rfl rfl rfl rfl (k_points hH (fun z22 h22 => ⟨_, rfl, ?_⟩))
    refine xcmp_ge 28 ⟨u237, _, rfl⟩ rfl (fun c25 => ?_) (fun c25 => ?_)
    · refine xild2 118 ⟨u237, _, rfl⟩ rfl rfl ?_
      exact xret ⟨u237, _, rfl⟩ rfl (hR _ hp hH hP hF he (by omega))
    · refine xald 29 ⟨u237, _, rfl⟩ rfl rfl ?_
      refine xild 30 ⟨u237, _, rfl⟩ rfl rfl ?_
      refine xild2 32 ⟨u237, _, rfl⟩ rfl rfl ?_
      refine xcall 35 [.ref 66, .int _, .int _] [] hH ⟨u237, _, rfl⟩ rfl rfl rfl rfl rfl (k_turn2 hH hP (by omega) (by omega) (by omega) (by omega) (fun z32 h32 => ⟨_, rfl, ?_⟩))
      refine xist2 37 ⟨u237, _, rfl⟩ rfl rfl ?_
      refine xald 38 ⟨u237, _, rfl⟩ rfl rfl ?_
      refine xild 39 ⟨u237, _, rfl⟩ rfl rfl ?_
      refine xild2 41 ⟨u237, _, rfl⟩ rfl rfl ?_
      refine xcall 44 [.ref 66, .int _, .int _] [] hH ⟨u237, _, rfl⟩ rfl rfl rfl rfl rfl (k_turn2 hH hP (by omega) (by omega) (by omega) (by omega) (fun z41 h41 => ⟨_, rfl, ?_⟩))
      refine xist2 46 ⟨u237, _, rfl⟩ rfl rfl ?_
      refine xald 47 ⟨u237, _, rfl⟩ rfl rfl ?_
      refine xild 48 ⟨u237, _, rfl⟩ rfl rfl ?_
      refine xild2 50 ⟨u237, _, rfl⟩ rfl rfl ?_
      refine xcall 53 [.ref 66, .int _, .int _] [] hH ⟨u237, _, rfl⟩ rfl rfl rfl rfl rfl (k_turn2 hH hP (by omega) (by omega) (by omega) (by omega) (fun z50 h50 => ⟨_, rfl, ?_⟩))
      refine xist2 55 ⟨u237, _, rfl⟩ rfl rfl ?_
      refine xild2 57 ⟨u237, _, rfl⟩ rfl rfl ?_
      refine xif_le 60 ⟨u237, _, rfl⟩ rfl (fun c57 => ?_) (fun c57 => ?_)
      · refine xald 83 ⟨u237, _, rfl⟩ rfl rfl ?_
        refine xild2 85 ⟨u237, _, rfl⟩ rfl rfl ?_
        refine xild2 87 ⟨u237, _, rfl⟩ rfl rfl ?_
        refine xild2 89 ⟨u237, _, rfl⟩ rfl rfl ?_
        refine xcall 92 [.ref 66, .int _, .int _, .int _] [] hH ⟨u237, _, rfl⟩ rfl rfl rfl rfl rfl (k_free hH (by omega) (by omega) (by omega) (by omega) (by omega) (by omega) (fun z89 h89 => ⟨_, rfl, ?_⟩))
        refine xif_ne 95 ⟨u237, _, rfl⟩ rfl (fun c92 => ?_) (fun c92 => ?_)
        · refine xald 98 ⟨u237, _, rfl⟩ rfl rfl ?_
          refine xild2 100 ⟨u237, _, rfl⟩ rfl rfl ?_
          refine xild2 102 ⟨u237, _, rfl⟩ rfl rfl ?_
          refine xild2 104 ⟨u237, _, rfl⟩ rfl rfl ?_
          refine xcall 107 [.ref 66, .int _, .int _, .int _] [] hH ⟨u237, _, rfl⟩ rfl rfl rfl rfl rfl (k_put hH hP (by omega) (by omega) (by omega) (by omega) (by omega) (by omega) (by omega) (by omega) (by omega) (by rcases h89 with g | g <;> first | exact g.2 | omega) (fun hp104 hH104 hP104 F104 E104 T104 => ⟨_, rfl, ?_⟩))
          have e104 : rN hp104 67 0 = rN hp 67 0 := E104 0 (by omega)
          refine xinc 110 (1) ⟨u237, _, rfl⟩ rfl rfl rfl (by decide) (by omega) (by omega) (fun z107 h107 => ?_)
          refine xinc 113 (1) ⟨u237, _, rfl⟩ rfl rfl rfl (by decide) (by omega) (by omega) (fun z110 h110 => ?_)
          refine xgoto ⟨u237, _, rfl⟩ ?_
          exact ih (j - 1) (by omega) _ _ _ _ _ _ hH104 hP104 (hF.trans F104) ((E104 0 (by omega)).trans he) (by omega) (by omega) (by omega) (by omega)
        · refine xcst 96 (-1) ⟨u237, _, rfl⟩ rfl (by decide) (fun z95 h95 => ?_)
          exact xret ⟨u237, _, rfl⟩ rfl (hR _ hp hH hP hF he (by omega))
      · refine xcst 61 (1) ⟨u237, _, rfl⟩ rfl (by decide) (fun z60 h60 => ?_)
        refine xild2 63 ⟨u237, _, rfl⟩ rfl rfl ?_
        refine xshl 64 ⟨u237, _, rfl⟩ rfl ?_
        refine xcst 65 (1) ⟨u237, _, rfl⟩ rfl (by decide) (fun z64 h64 => ?_)
        refine xild2 67 ⟨u237, _, rfl⟩ rfl rfl ?_
        refine xshl 68 ⟨u237, _, rfl⟩ rfl ?_
        refine xor_ 69 ⟨u237, _, rfl⟩ rfl ?_
        refine xcst 70 (1) ⟨u237, _, rfl⟩ rfl (by decide) (fun z69 h69 => ?_)
        refine xild2 72 ⟨u237, _, rfl⟩ rfl rfl ?_
        refine xshl 73 ⟨u237, _, rfl⟩ rfl ?_
        refine xor_ 74 ⟨u237, _, rfl⟩ rfl ?_
        refine xild2 76 ⟨u237, _, rfl⟩ rfl rfl ?_
        refine xcmp_ne 79 ⟨u237, _, rfl⟩ rfl (fun c76 => ?_) (fun c76 => ?_)
        · refine xald 83 ⟨u237, _, rfl⟩ rfl rfl ?_
          refine xild2 85 ⟨u237, _, rfl⟩ rfl rfl ?_
          refine xild2 87 ⟨u237, _, rfl⟩ rfl rfl ?_
          refine xild2 89 ⟨u237, _, rfl⟩ rfl rfl ?_
          refine xcall 92 [.ref 66, .int _, .int _, .int _] [] hH ⟨u237, _, rfl⟩ rfl rfl rfl rfl rfl (k_free hH (by omega) (by omega) (by omega) (by omega) (by omega) (by omega) (fun z89 h89 => ⟨_, rfl, ?_⟩))
          refine xif_ne 95 ⟨u237, _, rfl⟩ rfl (fun c92 => ?_) (fun c92 => ?_)
          · refine xald 98 ⟨u237, _, rfl⟩ rfl rfl ?_
            refine xild2 100 ⟨u237, _, rfl⟩ rfl rfl ?_
            refine xild2 102 ⟨u237, _, rfl⟩ rfl rfl ?_
            refine xild2 104 ⟨u237, _, rfl⟩ rfl rfl ?_
            refine xcall 107 [.ref 66, .int _, .int _, .int _] [] hH ⟨u237, _, rfl⟩ rfl rfl rfl rfl rfl (k_put hH hP (by omega) (by omega) (by omega) (by omega) (by omega) (by omega) (by omega) (by omega) (by omega) (by rcases h89 with g | g <;> first | exact g.2 | omega) (fun hp104 hH104 hP104 F104 E104 T104 => ⟨_, rfl, ?_⟩))
            have e104 : rN hp104 67 0 = rN hp 67 0 := E104 0 (by omega)
            refine xinc 110 (1) ⟨u237, _, rfl⟩ rfl rfl rfl (by decide) (by omega) (by omega) (fun z107 h107 => ?_)
            refine xinc 113 (1) ⟨u237, _, rfl⟩ rfl rfl rfl (by decide) (by omega) (by omega) (fun z110 h110 => ?_)
            refine xgoto ⟨u237, _, rfl⟩ ?_
            exact ih (j - 1) (by omega) _ _ _ _ _ _ hH104 hP104 (hF.trans F104) ((E104 0 (by omega)).trans he) (by omega) (by omega) (by omega) (by omega)
          · refine xcst 96 (-1) ⟨u237, _, rfl⟩ rfl (by decide) (fun z95 h95 => ?_)
            exact xret ⟨u237, _, rfl⟩ rfl (hR _ hp hH hP hF he (by omega))
        · refine xild2 81 ⟨u237, _, rfl⟩ rfl rfl ?_
          exact xret ⟨u237, _, rfl⟩ rfl (hR _ hp hH hP hF he (by omega))
theorem k_devs {d : Nat} {hp0 : amH} {R : xQ} {a b c : Int32} (hH : bHk 84 bTT hp0) (hP : P0 hp0) (a1 : 0 ≤ a.toInt) (a2 : a.toInt < rN hp0 67 0) (b1 : 0 ≤ b.toInt) (b2 : b.toInt < rN hp0 67 0) (c1 : 0 ≤ c.toInt) (c2 : c.toInt < rN hp0 67 0) (hab : ¬ a.toInt = b.toInt) (hbc : ¬ b.toInt = c.toInt) (hac : ¬ a.toInt = c.toInt)
    (hR : ∀ (r : Int32) hp1, bHk 84 bTT hp1 → P0 hp1 → bFr [(67, 999)] hp0 hp1 → rN hp1 67 0 = rN hp0 67 0 → (-1 ≤ r.toInt ∧ r.toInt ≤ 15) → R (.inl (some (.int r))) hp1) : xK (d + 4) 237 [.ref 66, .int a, .int b, .int c] hp0 R := by
  refine xin (M := am_m237) rfl rfl rfl ?_
  refine xcst 1 (0) ⟨u237, _, rfl⟩ rfl (by decide) (fun z0 h0 => ?_)
  refine xist2 3 ⟨u237, _, rfl⟩ rfl rfl ?_
  refine xcst 4 (1) ⟨u237, _, rfl⟩ rfl (by decide) (fun z3 h3 => ?_)
  refine xild 5 ⟨u237, _, rfl⟩ rfl rfl ?_
  refine xshl 6 ⟨u237, _, rfl⟩ rfl ?_
  refine xcst 7 (1) ⟨u237, _, rfl⟩ rfl (by decide) (fun z6 h6 => ?_)
  refine xild 8 ⟨u237, _, rfl⟩ rfl rfl ?_
  refine xshl 9 ⟨u237, _, rfl⟩ rfl ?_
  refine xor_ 10 ⟨u237, _, rfl⟩ rfl ?_
  refine xcst 11 (1) ⟨u237, _, rfl⟩ rfl (by decide) (fun z10 h10 => ?_)
  refine xild 12 ⟨u237, _, rfl⟩ rfl rfl ?_
  refine xshl 13 ⟨u237, _, rfl⟩ rfl ?_
  refine xor_ 14 ⟨u237, _, rfl⟩ rfl ?_
  refine xist2 16 ⟨u237, _, rfl⟩ rfl rfl ?_
  refine xcst 17 (0) ⟨u237, _, rfl⟩ rfl (by decide) (fun z16 h16 => ?_)
  refine xist2 19 ⟨u237, _, rfl⟩ rfl rfl ?_
  refine xpad 3 ?_
  exact dv_loop a1 a2 b1 b2 c1 c2 hab hbc hac hR 15 _ _ _ _ _ hp0 hH hP (bFr.refl _ _) rfl (by omega) (by omega) (by omega) (by omega)
theorem u274 : bUp 0 am_m274.1 = true := by decide +kernel
theorem p274_s : bSem amGG P0 84 bTT 274 (sPub 3 9) := by
  refine pub3 (N := am_m274) rfl (fun x y z hp hH hP => ?_)
  refine xin (M := am_m274) rfl rfl rfl ?_
  have G := bFr.refl wM hp
  have q1 := hP.1.1
  have q2 := hP.1.2.1
  refine xald 1 ⟨u274, _, rfl⟩ rfl rfl ?_
  refine xild 2 ⟨u274, _, rfl⟩ rfl rfl ?_
  refine xild 3 ⟨u274, _, rfl⟩ rfl rfl ?_
  refine xild 4 ⟨u274, _, rfl⟩ rfl rfl ?_
  refine xcall 7 [.ref 66, .int _, .int _, .int _] [] hH ⟨u274, _, rfl⟩ rfl rfl rfl rfl rfl (k_noset hH hP (fun z4 hp4 hH4 hP4 F4 h4 => ⟨_, rfl, ?_⟩))
  have G4 := G.trans (bFr_sub (W1 := wM) F4 (by decide))
  have e4 : rN hp4 67 0 = rN hp 67 0 := r_fr F4 rfl
  have t4 : ∀ u v, tT hp4 u v = tT hp u v := fun u v => r_fr F4 rfl
  refine xif_eq 10 ⟨u274, _, rfl⟩ rfl (fun c7 => ?_) (fun c7 => ?_)
  · refine xald 13 ⟨u274, _, rfl⟩ rfl rfl ?_
    refine xcall 16 [.ref 66] [] hH4 ⟨u274, _, rfl⟩ rfl rfl rfl rfl rfl (k_begin hH4 hP4 (fun hp13 hH13 hP13 F13 E13 => ⟨_, rfl, ?_⟩))
    have G13 := G4.trans (bFr_sub (W1 := wM) F13 (by decide))
    have e13 : rN hp13 67 0 = rN hp4 67 0 := r_fr F13 rfl
    have t13 : ∀ u v, tT hp13 u v = tT hp4 u v := fun u v => r_fr F13 rfl
    refine xald 17 ⟨u274, _, rfl⟩ rfl rfl ?_
    refine xild 18 ⟨u274, _, rfl⟩ rfl rfl ?_
    refine xild 19 ⟨u274, _, rfl⟩ rfl rfl ?_
    refine xild 20 ⟨u274, _, rfl⟩ rfl rfl ?_
    refine xcall 23 [.ref 66, .int _, .int _, .int _] [] hH13 ⟨u274, _, rfl⟩ rfl rfl rfl rfl rfl (k_devs hH13 hP13 (by omega) (by omega) (by omega) (by omega) (by omega) (by omega) (by omega) (by omega) (by omega) (fun z20 hp20 hH20 hP20 F20 E20 h20 => ⟨_, rfl, ?_⟩))
    have G20 := G13.trans (bFr_sub (W1 := wM) F20 (by decide))
    have e20 := E20
    refine xist2 25 ⟨u274, _, rfl⟩ rfl rfl ?_
    refine xald 26 ⟨u274, _, rfl⟩ rfl rfl ?_
    refine xcall 29 [.ref 66] [] hH20 ⟨u274, _, rfl⟩ rfl rfl rfl rfl rfl (k_ends hH20 hP20 (Vf_eq (r := rN hp13 69) (fun i _ => r_fr F20 rfl) (Vf_eq E13 hP4.1)) (fun hp26 hH26 hP26 F26 E26 => ⟨_, rfl, ?_⟩))
    have G26 := G20.trans (bFr_sub (W1 := wM) F26 (by decide))
    have e26 : rN hp26 67 0 = rN hp13 67 0 := by rw [E26 0 (by omega), show rN hp20 69 0 = rN hp13 69 0 from r_fr F20 rfl, E13 0 (by omega), e13]
    refine xald 30 ⟨u274, _, rfl⟩ rfl rfl ?_
    refine xild2 32 ⟨u274, _, rfl⟩ rfl rfl ?_
    refine xcst 33 (-1) ⟨u274, _, rfl⟩ rfl (by decide) (fun z32 h32 => ?_)
    refine xcmp_ne 36 ⟨u274, _, rfl⟩ rfl (fun c33 => ?_) (fun c33 => ?_)
    · refine xcst 41 (0) ⟨u274, _, rfl⟩ rfl (by decide) (fun z40 h40 => ?_)
      refine xcst 42 (3) ⟨u274, _, rfl⟩ rfl (by decide) (fun z41 h41 => ?_)
      refine xcall 45 [.ref 66, .int _, .int _] [] hH26 ⟨u274, _, rfl⟩ rfl rfl rfl rfl rfl (k_fails2 hH26 hP26 (by omega) (fun hp42 hH42 hP42 F42 => ⟨_, rfl, ?_⟩))
      have G42 := G26.trans (bFr_sub (W1 := wM) F42 (by decide))
      have e42 : rN hp42 67 0 = rN hp26 67 0 := r_fr F42 rfl
      have t42 : ∀ u v, tT hp42 u v = tT hp26 u v := fun u v => r_fr F42 rfl
      refine xif_eq 48 ⟨u274, _, rfl⟩ rfl (fun c45 => ?_) (fun c45 => ?_)
      · refine xald 51 ⟨u274, _, rfl⟩ rfl rfl ?_
        refine xcall 54 [.ref 66] [] hH42 ⟨u274, _, rfl⟩ rfl rfl rfl rfl rfl (k_rem hH42 hP42 (fun hp51 hH51 hP51 F51 => ⟨_, rfl, ?_⟩))
        have G51 := G42.trans (bFr_sub (W1 := wM) F51 (by decide))
        have e51 : rN hp51 67 0 = rN hp42 67 0 := r_fr F51 rfl
        have t51 : ∀ u v, tT hp51 u v = tT hp42 u v := fun u v => r_fr F51 rfl
        refine xald 55 ⟨u274, _, rfl⟩ rfl rfl ?_
        refine xild 56 ⟨u274, _, rfl⟩ rfl rfl ?_
        refine xild 57 ⟨u274, _, rfl⟩ rfl rfl ?_
        refine xild 58 ⟨u274, _, rfl⟩ rfl rfl ?_
        refine xcall 61 [.ref 66, .int _, .int _, .int _] [] hH51 ⟨u274, _, rfl⟩ rfl rfl rfl rfl rfl (k_devs hH51 hP51 (by omega) (by omega) (by omega) (by omega) (by omega) (by omega) (by omega) (by omega) (by omega) (fun z58 hp58 hH58 hP58 F58 E58 h58 => ⟨_, rfl, ?_⟩))
        have G58 := G51.trans (bFr_sub (W1 := wM) F58 (by decide))
        have e58 := E58
        exact xret ⟨u274, _, rfl⟩ rfl ⟨⟨_, rfl⟩, hH58, hP58, G58⟩
      · refine xcst 49 (0) ⟨u274, _, rfl⟩ rfl (by decide) (fun z48 h48 => ?_)
        exact xret ⟨u274, _, rfl⟩ rfl ⟨⟨_, rfl⟩, hH42, hP42, G42⟩
    · refine xcst 37 (1) ⟨u274, _, rfl⟩ rfl (by decide) (fun z36 h36 => ?_)
      refine xgoto ⟨u274, _, rfl⟩ ?_
      refine xcst 42 (3) ⟨u274, _, rfl⟩ rfl (by decide) (fun z41 h41 => ?_)
      refine xcall 45 [.ref 66, .int _, .int _] [] hH26 ⟨u274, _, rfl⟩ rfl rfl rfl rfl rfl (k_fails2 hH26 hP26 (by omega) (fun hp42 hH42 hP42 F42 => ⟨_, rfl, ?_⟩))
      have G42 := G26.trans (bFr_sub (W1 := wM) F42 (by decide))
      refine xif_eq 48 ⟨u274, _, rfl⟩ rfl (fun c45 => absurd c45 (by omega)) (fun c45 => ?_)
      refine xcst 49 (0) ⟨u274, _, rfl⟩ rfl (by decide) (fun z48 h48 => ?_)
      exact xret ⟨u274, _, rfl⟩ rfl ⟨⟨_, rfl⟩, hH42, hP42, G42⟩
  · refine xcst 11 (0) ⟨u274, _, rfl⟩ rfl (by decide) (fun z10 h10 => ?_)
    exact xret ⟨u274, _, rfl⟩ rfl ⟨⟨_, rfl⟩, hH4, hP4, G4⟩
