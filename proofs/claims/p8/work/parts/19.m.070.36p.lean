/-! ===== the reference loads: its whole state ===== -/
def rL3 (y : tY) (z : Int) (q : sR) (n : Nat) (h : Nat → sR) (sv : Option sR) (hp1 : amH) : Prop := match tRd y with
  | .inl e => z = -1 ∧ rN hp1 66 22 = e.1 ∧ rN hp1 66 23 = (e.2 : Int) ∧ rfS hp1 q n h sv
  | .inr p => z = (((trL p.2 225).length : Nat) : Int) ∧ rN hp1 66 22 = 0 ∧ rN hp1 66 23 = -1 ∧ rfS hp1 (p.1, p.2, fun _ => 0) 0 h none
theorem k_rldS {d n : Nat} {h : Nat → sR} {sv : Option sR} {q0 : sR} {hp : amH} {R : xQ} {y : tY} (hH : bHk 84 bTT hp) (hP : P0 hp) (hS : rfS hp q0 n h sv) (Y : rB hp = y) (hR : ∀ (z : Int32) hp1, bHk 84 bTT hp1 → P0 hp1 → bFr wLd hp hp1 → rN hp1 66 21 = 0 → rL3 y z.toInt q0 n h sv hp1 → R (.inl (some (.int z))) hp1) : xK (d + 8) 251 [.ref 66] hp R := by
  refine xin (M := am_m251) rfl rfl rfl ?_
  refine xald 1 ⟨u251, _, rfl⟩ rfl rfl ?_
  refine xcst 2 (0) ⟨u251, _, rfl⟩ rfl (by decide) (fun z1 h1 => ?_)
  refine xputI 5 hH ⟨u251, _, rfl⟩ rfl rfl ⟨rfl, rfl⟩ (by omega) (by omega) (fun hp2 hH2 U2 => ?_)
  refine xald 6 ⟨u251, _, rfl⟩ rfl rfl ?_
  refine xgetR 9 67 hH2 ⟨u251, _, rfl⟩ rfl rfl ?_
  refine xcst 10 (0) ⟨u251, _, rfl⟩ rfl (by decide) (fun z9 h9 => ?_)
  refine xald 11 ⟨u251, _, rfl⟩ rfl rfl ?_
  refine xgetR 14 68 hH2 ⟨u251, _, rfl⟩ rfl rfl ?_
  refine xcst 15 (0) ⟨u251, _, rfl⟩ rfl (by decide) (fun z14 h14 => ?_)
  refine xsip 18 (229) ⟨u251, _, rfl⟩ rfl (by decide) (fun z15 h15 => ?_)
  refine xcallS 21 [.ref 67, .int _, .ref 68, .int _, .int _] [] hH2 ⟨u251, _, rfl⟩ rfl rfl rfl rfl rfl (k_copy 0 0 229 hH2 (by decide) (by decide) (by decide) rfl rfl (by omega) (by omega) (by omega) (by omega) (by omega) (by decide) (fun hp18 hH18 F18 E18 => ⟨_, rfl, ?_⟩))
  have r18 : ∀ i, i < 229 → rN hp18 68 i = rN hp 67 i := fun i hi => by rw [E18 i hi, if_pos (by omega), Nat.zero_add, Nat.sub_zero]; exact rU_ne U2 (by omega)
  have P18 : P0 hp18 := P0_no (P0_W (W := [(66, 7)]) (by decide) (rU_fr U2 rfl) hP) F18 (fun z => absurd z (by decide)) (fun z => absurd z (by decide)) (fun z => absurd z (by decide)) (by decide) (by decide)
  refine xald 22 ⟨u251, _, rfl⟩ rfl rfl ?_
  refine xcst 23 (3) ⟨u251, _, rfl⟩ rfl (by decide) (fun z22 h22 => ?_)
  refine xcall 26 [.ref 66, .int _] [] hH18 ⟨u251, _, rfl⟩ rfl rfl rfl rfl rfl (k_emz hH18 (by omega) (by omega) (fun hp23 hH23 F23 Z23 M23 W23 => ⟨_, rfl, ?_⟩))
  have P23 : P0 hp23 := P0_67 F23 P18 (hE_V M23 (by omega) (by omega))
  refine xald 27 ⟨u251, _, rfl⟩ rfl rfl ?_
  refine xcst 28 (0) ⟨u251, _, rfl⟩ rfl (by decide) (fun z27 h27 => ?_)
  refine xputI 31 hH23 ⟨u251, _, rfl⟩ rfl rfl ⟨rfl, rfl⟩ (by omega) (by omega) (fun hp28 hH28 U28 => ?_)
  refine xald 32 ⟨u251, _, rfl⟩ rfl rfl ?_
  refine xcst 33 (-1) ⟨u251, _, rfl⟩ rfl (by decide) (fun z32 h32 => ?_)
  refine xputI 36 hH28 ⟨u251, _, rfl⟩ rfl rfl ⟨rfl, rfl⟩ (by omega) (by omega) (fun hp33 hH33 U33 => ?_)
  refine xald 37 ⟨u251, _, rfl⟩ rfl rfl ?_
  refine xcst 38 (0) ⟨u251, _, rfl⟩ rfl (by decide) (fun z37 h37 => ?_)
  refine xputI 41 hH33 ⟨u251, _, rfl⟩ rfl rfl ⟨rfl, rfl⟩ (by omega) (by omega) (fun hp38 hH38 U38 => ?_)
  have F38 : bFr [(66, 24), (66, 25), (66, 26)] hp23 hp38 := ((rU_fr U28 (by decide)).trans (rU_fr U33 (by decide))).trans (rU_fr U38 (by decide))
  have P38 : P0 hp38 := P0_W (W := [(66, 24), (66, 25), (66, 26)]) (by decide) F38 P23
  have b38 := rb_fld hH38 (f := 21) (lo := 2147483648) (hi := 2147484248) rfl
  have s38 := U38.1
  have Y38 : rB hp38 = y := by rw [rB_F F38 rfl (fun _ => rfl), rB_F F23 rfl (fun _ => rfl), rB_F F18 rfl (fun _ => rfl), rB_U U2 (by decide), Y]
  refine xald 42 ⟨u251, _, rfl⟩ rfl rfl ?_
  refine xcall 45 [.ref 66] [] hH38 ⟨u251, _, rfl⟩ rfl rfl rfl rfl rfl (k_radv hH38 Y38 (p := 0) (by omega) (by omega) (fun hp42 hH42 F42 Y42 T42 => ⟨_, rfl, ?_⟩))
  have P42 : P0 hp42 := P0_W (W := wAdv) (by decide) F42 P38
  have e42 : rN hp42 66 24 = 0 := by
    have a := U28.1
    have b : rN hp33 66 24 = rN hp28 66 24 := rU_ne U33 (by omega)
    have c : rN hp38 66 24 = rN hp33 66 24 := rU_ne U38 (by omega)
    have f : rN hp42 66 24 = rN hp38 66 24 := r_fr F42 rfl
    omega
  have o42 : rN hp42 66 25 = -1 := by
    have a := U33.1
    have c : rN hp38 66 25 = rN hp33 66 25 := rU_ne U38 (by omega)
    have f : rN hp42 66 25 = rN hp38 66 25 := r_fr F42 rfl
    omega
  have M42 : hE hp42 := fun i g1 g2 => by rw [show rN hp42 67 i = rN hp38 67 i from r_fr F42 rfl, show rN hp38 67 i = rN hp23 67 i from r_fr F38 rfl]; exact M23 i g1 g2
  refine xald 46 ⟨u251, _, rfl⟩ rfl rfl ?_
  refine xcall 49 [.ref 66] [] hH42 ⟨u251, _, rfl⟩ rfl rfl rfl rfl rfl (k_rrx hH42 P42 M42 Y42 T42 e42 (fun z46 hp46 hH46 hP46 F46 r46 => ⟨_, rfl, ?_⟩))
  refine xist 50 ⟨u251, _, rfl⟩ rfl rfl ?_
  refine xald 51 ⟨u251, _, rfl⟩ rfl rfl ?_
  refine xcst 52 (0) ⟨u251, _, rfl⟩ rfl (by decide) (fun z51 h51 => ?_)
  refine xputI 55 hH46 ⟨u251, _, rfl⟩ rfl rfl ⟨rfl, rfl⟩ (by omega) (by omega) (fun hp52 hH52 U52 => ?_)
  refine xald 56 ⟨u251, _, rfl⟩ rfl rfl ?_
  refine xald 57 ⟨u251, _, rfl⟩ rfl rfl ?_
  refine xgetI 60 hH52 ⟨u251, _, rfl⟩ rfl rfl (fun z57 h57 => ?_)
  have m57 := aMin z57
  have x57 := aMax z57
  refine xputI 63 hH52 ⟨u251, _, rfl⟩ rfl rfl ⟨rfl, rfl⟩ (by omega) (by omega) (fun hp60 hH60 U60 => ?_)
  refine xald 64 ⟨u251, _, rfl⟩ rfl rfl ?_
  refine xald 65 ⟨u251, _, rfl⟩ rfl rfl ?_
  refine xgetI 68 hH60 ⟨u251, _, rfl⟩ rfl rfl (fun z65 h65 => ?_)
  have m65 := aMin z65
  have x65 := aMax z65
  refine xputI 71 hH60 ⟨u251, _, rfl⟩ rfl rfl ⟨rfl, rfl⟩ (by omega) (by omega) (fun hp68 hH68 U68 => ?_)
  have F68 : bFr [(66, 21), (66, 22), (66, 23)] hp46 hp68 := ((rU_fr U52 (by decide)).trans (rU_fr U60 (by decide))).trans (rU_fr U68 (by decide))
  have P68 : P0 hp68 := P0_W (W := [(66, 21), (66, 22), (66, 23)]) (by decide) F68 hP46
  have c68 : rN hp68 66 22 = rN hp46 66 24 := by
    have a : rN hp52 66 24 = rN hp46 66 24 := rU_ne U52 (by omega)
    have b := U60.1
    have c : rN hp68 66 22 = rN hp60 66 22 := rU_ne U68 (by omega)
    omega
  have d68 : rN hp68 66 23 = rN hp46 66 25 := by
    have a : rN hp52 66 25 = rN hp46 66 25 := rU_ne U52 (by omega)
    have b : rN hp60 66 25 = rN hp52 66 25 := rU_ne U60 (by omega)
    have c := U68.1
    omega
  have n68 : rN hp68 66 21 = 0 := by
    have a := U52.1
    have b : rN hp60 66 21 = rN hp52 66 21 := rU_ne U60 (by omega)
    have c : rN hp68 66 21 = rN hp60 66 21 := rU_ne U68 (by omega)
    omega
  have G68 : bFr wLd hp hp68 := ((((((rU_fr U2 (by decide)).trans (bFr_sub F18 (by decide))).trans (bFr_sub F23 (by decide))).trans (bFr_sub F38 (by decide))).trans (bFr_sub F42 (by decide))).trans (bFr_sub F46 (by decide))).trans (bFr_sub F68 (by decide))
  refine xild 72 ⟨u251, _, rfl⟩ rfl rfl ?_
  refine xif_ne 75 ⟨u251, _, rfl⟩ rfl (fun c72 => ?_) (fun c72 => ?_)
  · refine xald 94 ⟨u251, _, rfl⟩ rfl rfl ?_
    refine xcst 95 (0) ⟨u251, _, rfl⟩ rfl (by decide) (fun z94 h94 => ?_)
    refine xputI 98 hH68 ⟨u251, _, rfl⟩ rfl rfl ⟨rfl, rfl⟩ (by omega) (by omega) (fun hp95 hH95 U95 => ?_)
    refine xald 99 ⟨u251, _, rfl⟩ rfl rfl ?_
    refine xcst 100 (0) ⟨u251, _, rfl⟩ rfl (by decide) (fun z99 h99 => ?_)
    refine xputI 103 hH95 ⟨u251, _, rfl⟩ rfl rfl (by rw [show z99 = 0 from Int32.toInt_inj.mp h99]; exact ⟨rfl, rfl⟩) (by omega) (by omega) (fun hp100 hH100 U100 => ?_)
    have F100 : bFr [(66, 5), (66, 6)] hp68 hp100 := (rU_fr U95 (by decide)).trans (rU_fr U100 (by decide))
    have hP100 : P0 hp100 := P0_56 F100 (by
      have a := U95.1
      have b : rN hp100 66 5 = rN hp95 66 5 := rU_ne U100 (by omega)
      omega) (by
      have a := U100.1
      omega) P68
    obtain ⟨q, eq⟩ : ∃ q, tRd y = .inr q := by
      cases e : tRd y with
      | inr q => exact ⟨q, rfl⟩
      | inl er => unfold rRt at r46; rw [e] at r46; have := r46.1; omega
    unfold rRt at r46
    rw [eq] at r46
    obtain ⟨-, r2, r3, r4, r5⟩ := r46
    have B100 : rdOk hp100 q.1 q.2 := rdOk_fr r2 (fun i => (r_fr F100 rfl).trans (r_fr F68 rfl))
    refine xald 104 ⟨u251, _, rfl⟩ rfl rfl ?_
    refine xcall 107 [.ref 66] [] hH100 ⟨u251, _, rfl⟩ rfl rfl rfl rfl rfl (k_rtm hH100 B100 (fun z104 hp104 hH104 F104 B104 L104 e104 => ⟨_, rfl, ?_⟩))
    have hP104 : P0 hp104 := P0_W (W := bLT) (by decide) F104 hP100
    exact xret ⟨u251, _, rfl⟩ rfl (hR _ hp104 hH104 hP104 ((G68.trans (bFr_sub F100 (by decide))).trans (bFr_sub F104 (by decide))) (by
      rw [show rN hp104 66 21 = rN hp100 66 21 from r_fr F104 rfl, show rN hp100 66 21 = rN hp68 66 21 from r_fr F100 rfl]; exact n68) (by
      unfold rL3
      rw [eq]
      have a : rN hp104 66 22 = rN hp68 66 22 := (r_fr F104 rfl).trans (r_fr F100 rfl)
      have b : rN hp104 66 23 = rN hp68 66 23 := (r_fr F104 rfl).trans (r_fr F100 rfl)
      have z67 : ∀ i, 1 ≤ i → i < 4 → rN hp104 67 i = 0 := fun i g1 g2 => by
        rw [show rN hp104 67 i = rN hp100 67 i from r_fr F104 rfl, show rN hp100 67 i = rN hp68 67 i from r_fr F100 rfl, show rN hp68 67 i = rN hp46 67 i from r_fr F68 rfl, r5 i g1 g2, show rN hp42 67 i = rN hp38 67 i from r_fr F42 rfl, show rN hp38 67 i = rN hp23 67 i from r_fr F38 rfl]
        exact W23 i g1 g2
      exact ⟨e104, by omega, by omega, rd_rowOk B104 (fun i hi => z67 (i + 1) (by omega) (by omega)), by rw [show rN hp104 66 5 = rN hp100 66 5 from r_fr F104 rfl, rU_ne U100 (by omega), U95.1]; exact h94, Nat.zero_le _, fun k hk => absurd hk (Nat.not_lt_zero k), by show rN hp104 66 6 = 0; rw [show rN hp104 66 6 = rN hp100 66 6 from r_fr F104 rfl, U100.1]; exact h99⟩))
  · refine xald 76 ⟨u251, _, rfl⟩ rfl rfl ?_
    refine xgetR 79 68 hH68 ⟨u251, _, rfl⟩ rfl rfl ?_
    refine xcst 80 (0) ⟨u251, _, rfl⟩ rfl (by decide) (fun z79 h79 => ?_)
    refine xald 81 ⟨u251, _, rfl⟩ rfl rfl ?_
    refine xgetR 84 67 hH68 ⟨u251, _, rfl⟩ rfl rfl ?_
    refine xcst 85 (0) ⟨u251, _, rfl⟩ rfl (by decide) (fun z84 h84 => ?_)
    refine xsip 88 (229) ⟨u251, _, rfl⟩ rfl (by decide) (fun z85 h85 => ?_)
    refine xcallS 91 [.ref 68, .int _, .ref 67, .int _, .int _] [] hH68 ⟨u251, _, rfl⟩ rfl rfl rfl rfl rfl (k_copy 0 0 229 hH68 (by decide) (by decide) (by decide) rfl rfl (by omega) (by omega) (by omega) (by omega) (by omega) (by decide) (fun hp88 hH88 F88 E88 => ⟨_, rfl, ?_⟩))
    have r88 : ∀ i, i < 229 → rN hp88 67 i = rN hp 67 i := fun i hi => by
      rw [E88 i hi, if_pos (by omega), Nat.zero_add, Nat.sub_zero, show rN hp68 68 i = rN hp46 68 i from r_fr F68 rfl, show rN hp46 68 i = rN hp42 68 i from r_fr F46 rfl, show rN hp42 68 i = rN hp38 68 i from r_fr F42 rfl, show rN hp38 68 i = rN hp23 68 i from r_fr F38 rfl, show rN hp23 68 i = rN hp18 68 i from r_fr F23 rfl]
      exact r18 i hi
    refine xcst 92 (-1) ⟨u251, _, rfl⟩ rfl (by decide) (fun z91 h91 => ?_)
    exact xret ⟨u251, _, rfl⟩ rfl (hR _ hp88 hH88 (P0_67 F88 P68 (Vf_eq r88 hP.1)) (G68.trans (bFr_sub F88 (by decide))) ((r_fr F88 rfl).trans n68) (by
      unfold rRt at r46
      unfold rL3
      cases e : tRd y with
      | inr q => rw [e] at r46; have := r46.1; omega
      | inl er =>
        rw [e] at r46
        obtain ⟨-, r2, r3⟩ := r46
        have a : rN hp88 66 22 = rN hp68 66 22 := r_fr F88 rfl
        have b : rN hp88 66 23 = rN hp68 66 23 := r_fr F88 rfl
        have g5 : ∀ i, i = 5 ∨ i = 6 → rN hp88 66 i = rN hp 66 i := fun i hi => by
          rcases hi with rfl | rfl
          · rw [show rN hp88 66 5 = rN hp68 66 5 from r_fr F88 rfl, show rN hp68 66 5 = rN hp46 66 5 from r_fr F68 rfl, show rN hp46 66 5 = rN hp42 66 5 from r_fr F46 rfl, show rN hp42 66 5 = rN hp38 66 5 from r_fr F42 rfl, show rN hp38 66 5 = rN hp23 66 5 from r_fr F38 rfl, show rN hp23 66 5 = rN hp18 66 5 from r_fr F23 rfl, show rN hp18 66 5 = rN hp2 66 5 from r_fr F18 rfl, rU_ne U2 (by omega)]
          · rw [show rN hp88 66 6 = rN hp68 66 6 from r_fr F88 rfl, show rN hp68 66 6 = rN hp46 66 6 from r_fr F68 rfl, show rN hp46 66 6 = rN hp42 66 6 from r_fr F46 rfl, show rN hp42 66 6 = rN hp38 66 6 from r_fr F42 rfl, show rN hp38 66 6 = rN hp23 66 6 from r_fr F38 rfl, show rN hp23 66 6 = rN hp18 66 6 from r_fr F23 rfl, show rN hp18 66 6 = rN hp2 66 6 from r_fr F18 rfl, rU_ne U2 (by omega)]
        have g7 : ∀ c i, c = 70 ∨ c = 71 → rN hp88 c i = rN hp c i := fun c i hc => by
          rcases hc with rfl | rfl
          · rw [show rN hp88 70 i = rN hp68 70 i from r_fr F88 rfl, show rN hp68 70 i = rN hp46 70 i from r_fr F68 rfl, show rN hp46 70 i = rN hp42 70 i from r_fr F46 rfl, show rN hp42 70 i = rN hp38 70 i from r_fr F42 rfl, show rN hp38 70 i = rN hp23 70 i from r_fr F38 rfl, show rN hp23 70 i = rN hp18 70 i from r_fr F23 rfl, show rN hp18 70 i = rN hp2 70 i from r_fr F18 rfl, rU_ne U2 (by omega)]
          · rw [show rN hp88 71 i = rN hp68 71 i from r_fr F88 rfl, show rN hp68 71 i = rN hp46 71 i from r_fr F68 rfl, show rN hp46 71 i = rN hp42 71 i from r_fr F46 rfl, show rN hp42 71 i = rN hp38 71 i from r_fr F42 rfl, show rN hp38 71 i = rN hp23 71 i from r_fr F38 rfl, show rN hp23 71 i = rN hp18 71 i from r_fr F23 rfl, show rN hp18 71 i = rN hp2 71 i from r_fr F18 rfl, rU_ne U2 (by omega)]
        exact ⟨by omega, by omega, by omega, rowOk_eq hS.1 r88, hyR_fr hS.2 (g5 5 (Or.inl rfl)) (g5 6 (Or.inr rfl)) (fun i => g7 70 i (Or.inl rfl)) (fun i => g7 71 i (Or.inr rfl))⟩))
