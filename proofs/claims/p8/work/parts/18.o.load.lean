/-! ===== ways by hand: a system is laid empty; a text is read as a system ===== -/
theorem P0_56 {hp hp1 : amH} (hF : bFr [(66, 5), (66, 6)] hp hp1) (h5 : rN hp1 66 5 = 0) (h6 : rN hp1 66 6 = 0) (hP : P0 hp) : P0 hp1 :=
  ⟨Vf_eq (fun i _ => r_fr hF rfl) hP.1, fun z => absurd z (by omega), fun k hk => absurd hk (by omega), fun z => Vf_eq (fun i _ => r_fr hF rfl) (hP.2.2.2 (by rw [← show rN hp1 69 0 = rN hp 69 0 from r_fr hF rfl]; exact z))⟩
theorem l199 {d : Nat} {hp0 : amH} {R : xQ} {m : Int32} (m0 : 3 ≤ m.toInt) (m1 : m.toInt ≤ 15) (hR : ∀ hp1, bHk 84 bTT hp1 → bFr [(67, 999)] hp0 hp1 → rN hp1 67 0 = m.toInt → hE hp1 → R (.inl none) hp1) :
    ∀ (jj : Nat) (k : Int32) (hp : amH), k.toInt + (jj : Int) = 229 → 0 ≤ k.toInt → bHk 84 bTT hp → bFr [(67, 999)] hp0 hp → (∀ i, 4 ≤ i → i < k.toInt.toNat → rN hp 67 i = -1) → xV d am_m199 2 [some (.ref 66), some (.int m), some (.int k)] [] hp R := by
  intro jj
  induction jj using Nat.strongRecOn with
  | ind jj ih =>
    intro k hp hjj k0 hH hF hM
    refine xild 3 ⟨u199, _, rfl⟩ rfl rfl ?_
    refine xsip 6 (229) ⟨u199, _, rfl⟩ rfl (by decide) (fun z3 h3 => ?_)
    refine xcmp_ge 9 ⟨u199, _, rfl⟩ rfl (fun c6 => ?_) (fun c6 => ?_)
    · refine xald 32 ⟨u199, _, rfl⟩ rfl rfl ?_
      refine xgetR 35 67 hH ⟨u199, _, rfl⟩ rfl rfl ?_
      refine xcst 36 (0) ⟨u199, _, rfl⟩ rfl (by decide) (fun z35 h35 => ?_)
      refine xild 37 ⟨u199, _, rfl⟩ rfl rfl ?_
      refine xiast 38 0 hH ⟨u199, _, rfl⟩ rfl (by decide) rfl (by omega) (by omega) (by omega) (by omega) (fun hp37 hH37 U37 => ?_)
      exact xretV ⟨u199, _, rfl⟩ rfl (hR hp37 hH37 (hF.trans (rU_fr U37 (bIn_all (by decide) _))) U37.1 (fun i g1 g2 => by rw [show rN hp37 67 i = rN hp 67 i from rU_ne U37 (by omega)]; exact hM i g1 (by omega)))
    · refine xald 10 ⟨u199, _, rfl⟩ rfl rfl ?_
      refine xgetR 13 67 hH ⟨u199, _, rfl⟩ rfl rfl ?_
      refine xild 14 ⟨u199, _, rfl⟩ rfl rfl ?_
      refine xild 15 ⟨u199, _, rfl⟩ rfl rfl ?_
      refine xcst 16 (4) ⟨u199, _, rfl⟩ rfl (by decide) (fun z15 h15 => ?_)
      refine xcmp_ge 19 ⟨u199, _, rfl⟩ rfl (fun c16 => ?_) (fun c16 => ?_)
      · refine xcst 24 (-1) ⟨u199, _, rfl⟩ rfl (by decide) (fun z23 h23 => ?_)
        refine xiast 25 (k).toInt.toNat hH ⟨u199, _, rfl⟩ rfl (by decide) rfl (by omega) (by omega) (by omega) (by omega) (fun hp24 hH24 U24 => ?_)
        refine xinc 28 (1) ⟨u199, _, rfl⟩ rfl rfl rfl (by decide) (by omega) (by omega) (fun z25 h25 => ?_)
        refine xgoto ⟨u199, _, rfl⟩ ?_
        exact ih (jj - 1) (by omega) _ hp24 (by omega) (by omega) hH24 (hF.trans (rU_fr U24 (bIn_all (by decide) _))) (fun i g1 g2 => by
          by_cases e : i = k.toInt.toNat
          · rw [e, U24.1]; omega
          · rw [show rN hp24 67 i = rN hp 67 i from rU_ne U24 (by omega)]; exact hM i g1 (by omega))
      · refine xcst 20 (0) ⟨u199, _, rfl⟩ rfl (by decide) (fun z19 h19 => ?_)
        refine xgoto ⟨u199, _, rfl⟩ ?_
        refine xiast 25 (k).toInt.toNat hH ⟨u199, _, rfl⟩ rfl (by decide) rfl (by omega) (by omega) (by omega) (by omega) (fun hp24 hH24 U24 => ?_)
        refine xinc 28 (1) ⟨u199, _, rfl⟩ rfl rfl rfl (by decide) (by omega) (by omega) (fun z25 h25 => ?_)
        refine xgoto ⟨u199, _, rfl⟩ ?_
        exact ih (jj - 1) (by omega) _ hp24 (by omega) (by omega) hH24 (hF.trans (rU_fr U24 (bIn_all (by decide) _))) (fun i g1 g2 => by
          by_cases e : i = k.toInt.toNat
          · rw [e, U24.1]; omega
          · rw [show rN hp24 67 i = rN hp 67 i from rU_ne U24 (by omega)]; exact hM i g1 (by omega))
theorem k_em {d : Nat} {hp0 : amH} {R : xQ} {m : Int32} (hH : bHk 84 bTT hp0) (m0 : 3 ≤ m.toInt) (m1 : m.toInt ≤ 15) (hR : ∀ hp1, bHk 84 bTT hp1 → bFr [(67, 999)] hp0 hp1 → rN hp1 67 0 = m.toInt → hE hp1 → R (.inl none) hp1) : xK d 199 [.ref 66, .int m] hp0 R := by
  refine xin (M := am_m199) rfl rfl rfl ?_
  refine xcst 1 (0) ⟨u199, _, rfl⟩ rfl (by decide) (fun z0 h0 => ?_)
  refine xist 2 ⟨u199, _, rfl⟩ rfl rfl ?_
  exact l199 m0 m1 hR 229 _ hp0 (by omega) (by omega) hH (bFr.refl _ _) (fun i g1 g2 => absurd g2 (by omega))
def wLd : List (Nat × Nat) := [(66, 21), (66, 22), (66, 23), (66, 24), (66, 25), (66, 26), (66, 27), (66, 28), (66, 29), (81, 999)] ++ wM
theorem k_ld {d : Nat} {hp : amH} {R : xQ} (hH : bHk 84 bTT hp) (hP : P0 hp) (hR : ∀ (z : Int32) hp1, bHk 84 bTT hp1 → P0 hp1 → bFr wLd hp hp1 → rN hp1 66 21 = 0 → R (.inl (some (.int z))) hp1) : xK (d + 8) 251 [.ref 66] hp R := by
  refine xin (M := am_m251) rfl rfl rfl ?_
  refine xald 1 ⟨u251, _, rfl⟩ rfl rfl ?_
  refine xcst 2 (0) ⟨u251, _, rfl⟩ rfl (by decide) (fun z1 h1 => ?_)
  refine xputI 5 hH ⟨u251, _, rfl⟩ rfl rfl ⟨rfl, rfl⟩ (by omega) (by omega) (fun hp2 hH2 U2 => ?_)
  refine xald 6 ⟨u251, _, rfl⟩ rfl rfl ?_
  refine xgetR 9 67 hH2 ⟨u251, _, rfl⟩ rfl rfl ?_
  refine xcst 10 (0) ⟨u251, _, rfl⟩ rfl (by decide) (fun z9 h9 => ?_)
  refine xald 11 ⟨u251, _, rfl⟩ rfl rfl ?_
  refine xgetR 14 68 hH2 ⟨u251, _, rfl⟩ rfl rfl ?_
  refine xcst 15 (0) ⟨u251, _, rfl⟩ rfl (by decide) (fun z14 h14 => ?_)
  refine xsip 18 (229) ⟨u251, _, rfl⟩ rfl (by decide) (fun z15 h15 => ?_)
  refine xcallS 21 [.ref 67, .int _, .ref 68, .int _, .int _] [] hH2 ⟨u251, _, rfl⟩ rfl rfl rfl rfl rfl (k_copy 0 0 229 hH2 (by decide) (by decide) (by decide) rfl rfl (by omega) (by omega) (by omega) (by omega) (by omega) (by decide) (fun hp18 hH18 F18 E18 => ⟨_, rfl, ?_⟩))
  have r18 : ∀ i, i < 229 → rN hp18 68 i = rN hp 67 i := fun i hi => by rw [E18 i hi, if_pos (by omega), Nat.zero_add, Nat.sub_zero]; exact rU_ne U2 (by omega)
  have P18 : P0 hp18 := P0_no (P0_W (W := [(66, 7)]) (by decide) (rU_fr U2 rfl) hP) F18 (fun z => absurd z (by decide)) (fun z => absurd z (by decide)) (fun z => absurd z (by decide)) (by decide) (by decide)
  refine xald 22 ⟨u251, _, rfl⟩ rfl rfl ?_
  refine xcst 23 (3) ⟨u251, _, rfl⟩ rfl (by decide) (fun z22 h22 => ?_)
  refine xcall 26 [.ref 66, .int _] [] hH18 ⟨u251, _, rfl⟩ rfl rfl rfl rfl rfl (k_em hH18 (by omega) (by omega) (fun hp23 hH23 F23 Z23 M23 => ⟨_, rfl, ?_⟩))
  have P23 : P0 hp23 := P0_67 F23 P18 (hE_V M23 (by omega) (by omega))
  refine xald 27 ⟨u251, _, rfl⟩ rfl rfl ?_
  refine xcst 28 (0) ⟨u251, _, rfl⟩ rfl (by decide) (fun z27 h27 => ?_)
  refine xputI 31 hH23 ⟨u251, _, rfl⟩ rfl rfl ⟨rfl, rfl⟩ (by omega) (by omega) (fun hp28 hH28 U28 => ?_)
  refine xald 32 ⟨u251, _, rfl⟩ rfl rfl ?_
  refine xcst 33 (-1) ⟨u251, _, rfl⟩ rfl (by decide) (fun z32 h32 => ?_)
  refine xputI 36 hH28 ⟨u251, _, rfl⟩ rfl rfl ⟨rfl, rfl⟩ (by omega) (by omega) (fun hp33 hH33 U33 => ?_)
  refine xald 37 ⟨u251, _, rfl⟩ rfl rfl ?_
  refine xcst 38 (0) ⟨u251, _, rfl⟩ rfl (by decide) (fun z37 h37 => ?_)
  refine xputI 41 hH33 ⟨u251, _, rfl⟩ rfl rfl ⟨rfl, rfl⟩ (by omega) (by omega) (fun hp38 hH38 U38 => ?_)
  have F38 : bFr [(66, 24), (66, 25), (66, 26)] hp23 hp38 := ((rU_fr U28 (by decide)).trans (rU_fr U33 (by decide))).trans (rU_fr U38 (by decide))
  have P38 : P0 hp38 := P0_W (W := [(66, 24), (66, 25), (66, 26)]) (by decide) F38 P23
  have b38 := rb_fld hH38 (f := 21) (lo := 2147483648) (hi := 2147484248) rfl
  have s38 := U38.1
  refine xald 42 ⟨u251, _, rfl⟩ rfl rfl ?_
  refine xcall 45 [.ref 66] [] hH38 ⟨u251, _, rfl⟩ rfl rfl rfl rfl rfl (k_adv hH38 (by omega) (fun hp42 hH42 V42 => ⟨_, rfl, ?_⟩))
  have P42 : P0 hp42 := P0_W (W := wAdv) (by decide) V42.1 P38
  have M42 : hE hp42 := fun i g1 g2 => by rw [show rN hp42 67 i = rN hp38 67 i from r_fr V42.1 rfl, show rN hp38 67 i = rN hp23 67 i from r_fr F38 rfl]; exact M23 i g1 g2
  refine xald 46 ⟨u251, _, rfl⟩ rfl rfl ?_
  refine xcall 49 [.ref 66] [] hH42 ⟨u251, _, rfl⟩ rfl rfl rfl rfl rfl (k_rx hH42 P42 V42.2.1 M42 (fun z46 hp46 hH46 hP46 S46 h46 => ⟨_, rfl, ?_⟩))
  refine xist 50 ⟨u251, _, rfl⟩ rfl rfl ?_
  refine xald 51 ⟨u251, _, rfl⟩ rfl rfl ?_
  refine xcst 52 (0) ⟨u251, _, rfl⟩ rfl (by decide) (fun z51 h51 => ?_)
  refine xputI 55 hH46 ⟨u251, _, rfl⟩ rfl rfl ⟨rfl, rfl⟩ (by omega) (by omega) (fun hp52 hH52 U52 => ?_)
  refine xald 56 ⟨u251, _, rfl⟩ rfl rfl ?_
  refine xald 57 ⟨u251, _, rfl⟩ rfl rfl ?_
  refine xgetI 60 hH52 ⟨u251, _, rfl⟩ rfl rfl (fun z57 h57 => ?_)
  have m57 := aMin z57
  have x57 := aMax z57
  refine xputI 63 hH52 ⟨u251, _, rfl⟩ rfl rfl ⟨rfl, rfl⟩ (by omega) (by omega) (fun hp60 hH60 U60 => ?_)
  refine xald 64 ⟨u251, _, rfl⟩ rfl rfl ?_
  refine xald 65 ⟨u251, _, rfl⟩ rfl rfl ?_
  refine xgetI 68 hH60 ⟨u251, _, rfl⟩ rfl rfl (fun z65 h65 => ?_)
  have m65 := aMin z65
  have x65 := aMax z65
  refine xputI 71 hH60 ⟨u251, _, rfl⟩ rfl rfl ⟨rfl, rfl⟩ (by omega) (by omega) (fun hp68 hH68 U68 => ?_)
  have F68 : bFr [(66, 21), (66, 22), (66, 23)] hp46 hp68 := ((rU_fr U52 (by decide)).trans (rU_fr U60 (by decide))).trans (rU_fr U68 (by decide))
  have P68 : P0 hp68 := P0_W (W := [(66, 21), (66, 22), (66, 23)]) (by decide) F68 hP46
  have n68 : rN hp68 66 21 = 0 := by
    have a := U52.1
    have b : rN hp60 66 21 = rN hp52 66 21 := rU_ne U60 (by omega)
    have c : rN hp68 66 21 = rN hp60 66 21 := rU_ne U68 (by omega)
    omega
  have G68 : bFr wLd hp hp68 := ((((((rU_fr U2 (by decide)).trans (bFr_sub F18 (by decide))).trans (bFr_sub F23 (by decide))).trans (bFr_sub F38 (by decide))).trans (bFr_sub V42.1 (by decide))).trans (bFr_sub S46.1 (by decide))).trans (bFr_sub F68 (by decide))
  refine xild 72 ⟨u251, _, rfl⟩ rfl rfl ?_
  refine xif_ne 75 ⟨u251, _, rfl⟩ rfl (fun c72 => ?_) (fun c72 => ?_)
  · refine xald 94 ⟨u251, _, rfl⟩ rfl rfl ?_
    refine xcst 95 (0) ⟨u251, _, rfl⟩ rfl (by decide) (fun z94 h94 => ?_)
    refine xputI 98 hH68 ⟨u251, _, rfl⟩ rfl rfl ⟨rfl, rfl⟩ (by omega) (by omega) (fun hp95 hH95 U95 => ?_)
    refine xald 99 ⟨u251, _, rfl⟩ rfl rfl ?_
    refine xcst 100 (0) ⟨u251, _, rfl⟩ rfl (by decide) (fun z99 h99 => ?_)
    refine xputI 103 hH95 ⟨u251, _, rfl⟩ rfl rfl (by rw [show z99 = 0 from Int32.toInt_inj.mp h99]; exact ⟨rfl, rfl⟩) (by omega) (by omega) (fun hp100 hH100 U100 => ?_)
    have F100 : bFr [(66, 5), (66, 6)] hp68 hp100 := (rU_fr U95 (by decide)).trans (rU_fr U100 (by decide))
    have hP100 : P0 hp100 := P0_56 F100 (by
      have a := U95.1
      have b : rN hp100 66 5 = rN hp95 66 5 := rU_ne U100 (by omega)
      omega) (by
      have a := U100.1
      omega) P68
    refine xald 104 ⟨u251, _, rfl⟩ rfl rfl ?_
    refine xcall 107 [.ref 66] [] hH100 ⟨u251, _, rfl⟩ rfl rfl rfl rfl rfl (k_tm hH100 hP100 (fun z104 hp104 hH104 hP104 F104 => ⟨_, rfl, ?_⟩))
    exact xret ⟨u251, _, rfl⟩ rfl (hR _ hp104 hH104 hP104 ((G68.trans (bFr_sub F100 (by decide))).trans (bFr_sub F104 (by decide))) (by
      rw [show rN hp104 66 21 = rN hp100 66 21 from r_fr F104 rfl, show rN hp100 66 21 = rN hp68 66 21 from r_fr F100 rfl]; exact n68))
  · refine xald 76 ⟨u251, _, rfl⟩ rfl rfl ?_
    refine xgetR 79 68 hH68 ⟨u251, _, rfl⟩ rfl rfl ?_
    refine xcst 80 (0) ⟨u251, _, rfl⟩ rfl (by decide) (fun z79 h79 => ?_)
    refine xald 81 ⟨u251, _, rfl⟩ rfl rfl ?_
    refine xgetR 84 67 hH68 ⟨u251, _, rfl⟩ rfl rfl ?_
    refine xcst 85 (0) ⟨u251, _, rfl⟩ rfl (by decide) (fun z84 h84 => ?_)
    refine xsip 88 (229) ⟨u251, _, rfl⟩ rfl (by decide) (fun z85 h85 => ?_)
    refine xcallS 91 [.ref 68, .int _, .ref 67, .int _, .int _] [] hH68 ⟨u251, _, rfl⟩ rfl rfl rfl rfl rfl (k_copy 0 0 229 hH68 (by decide) (by decide) (by decide) rfl rfl (by omega) (by omega) (by omega) (by omega) (by omega) (by decide) (fun hp88 hH88 F88 E88 => ⟨_, rfl, ?_⟩))
    have r88 : ∀ i, i < 229 → rN hp88 67 i = rN hp 67 i := fun i hi => by
      rw [E88 i hi, if_pos (by omega), Nat.zero_add, Nat.sub_zero, show rN hp68 68 i = rN hp46 68 i from r_fr F68 rfl, show rN hp46 68 i = rN hp42 68 i from r_fr S46.1 rfl, show rN hp42 68 i = rN hp38 68 i from r_fr V42.1 rfl, show rN hp38 68 i = rN hp23 68 i from r_fr F38 rfl, show rN hp23 68 i = rN hp18 68 i from r_fr F23 rfl]
      exact r18 i hi
    refine xcst 92 (-1) ⟨u251, _, rfl⟩ rfl (by decide) (fun z91 h91 => ?_)
    exact xret ⟨u251, _, rfl⟩ rfl (hR _ hp88 hH88 (P0_67 F88 P68 (Vf_eq r88 hP.1)) (G68.trans (bFr_sub F88 (by decide))) ((r_fr F88 rfl).trans n68))
def sLd : bSp := ([.inr (.inr [66])], [], 8, wLd, [], [(some (.inl (0, 4294967295)), [(66, 21, 2147483648, 2147483648)])])
theorem f21 {hp : amH} (hH : bHk 84 bTT hp) (h : rN hp 66 21 = 0) : bFacts hp [(66, 21, 2147483648, 2147483648)] := by
  intro f hf
  have hf : f = (66, 21, 2147483648, 2147483648) := by simpa using hf
  subst hf
  obtain ⟨vs, h1, -, -, -, x, h2, h3, -⟩ := x66I hH (f := 21) (lo := 2147483648) (hi := 2147484248) rfl
  refine ⟨x, ?_, ?_, ?_⟩
  · unfold bFld
    dsimp only
    rw [h1]
    exact h2
  · have := aOff_eq x
    show 2147483648 ≤ aOff x
    omega
  · have := aOff_eq x
    show aOff x ≤ 2147483648
    omega
theorem p251_s : bSem amGG P0 84 bTT 251 sLd := by
  refine ⟨am_m251, rfl, fun av hp hH hP ha _ => ?_⟩
  match av, ha with
  | [v], ha =>
    rw [ref66 ha.1]
    obtain ⟨N', hN', hw⟩ := k_ld (d := 0) (R := fun y hp1 => bHk 84 bTT hp1 ∧ P0 hp1 ∧ bFr wLd hp hp1 ∧ bOut 84 sLd y hp1) hH hP (fun z hp1 g1 g2 g3 g4 => ⟨g1, g2, g3, _, List.mem_cons_self, ⟨z, rfl, Nat.zero_le _, bOff_le z⟩, f21 g1 g4⟩)
    have hN' : some am_m251 = some N' := hN'
    cases hN'
    exact hw
