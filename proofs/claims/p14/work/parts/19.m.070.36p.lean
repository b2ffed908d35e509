/-! ##### 19.m.070.36p ##### -/
section
/-! ===== the reference loads: its whole state ===== -/
noncomputable def rL3 (y : tY) (z : Int) (q : sR) (n : Nat) (h : Nat → sR) (sv : Option sR) (hp1 : amH) : Prop := match tRd y with
  | .inl e => z = -1 ∧ rN hp1 66 22 = e.1 ∧ rN hp1 66 23 = (e.2 : Int) ∧ rfS hp1 q n h sv
  | .inr p => z = (((trL p.2 225).length : Nat) : Int) ∧ rN hp1 66 22 = 0 ∧ rN hp1 66 23 = -1 ∧ rfS hp1 (p.1, p.2, fun _ => 0) 0 h none
theorem k_rldS {d n : Nat} {h : Nat → sR} {sv : Option sR} {q0 : sR} {hp : amH} {R : xQ} {y : tY} (hH : bHk 84 bTT hp) (hP : P0 hp) (hS : rfS hp q0 n h sv) (Y : rB hp = y) (hR : ∀ (z : Int32) hp1, bHk 84 bTT hp1 → P0 hp1 → bFr wLd hp hp1 → rN hp1 66 21 = 0 → rL3 y z.toInt q0 n h sv hp1 → R (.inl (some (.int z))) hp1) : xK (d + 8) 251 [.ref 66] hp R := by
  refine xin (M := am_m251) rfl rfl rfl ?_
  refine xald 1 ⟨u251, _, rfl⟩ rfl rfl ?_
  refine xcst 2 (0) ⟨u251, _, rfl⟩ rfl (by decide) (fun z1 h1 => ?_)
  refine xputI 5 hH ⟨u251, _, rfl⟩ rfl rfl ⟨rfl, rfl⟩ (by omega) (by omega) (fun hp2 hH2 U2 => ?_)
  refine xald 6 ⟨u251, _, rfl⟩ rfl rfl ?_
  refine xgetR 9 67 hH2 ⟨u251, _, rfl⟩ rfl rfl ?_
  refine xcst 10 (0) ⟨u251, _, rfl⟩ rfl (by decide) (fun z9 h9 => ?_)
  refine xald 11 ⟨u251, _, rfl⟩ rfl rfl ?_
  refine xgetR 14 68 hH2 ⟨u251, _, rfl⟩ rfl rfl ?_
  refine xcst 15 (0) ⟨u251, _, rfl⟩ rfl (by decide) (fun z14 h14 => ?_)
  refine xsip 18 (229) ⟨u251, _, rfl⟩ rfl (by decide) (fun z15 h15 => ?_)
  refine xcallS 21 [.ref 67, .int _, .ref 68, .int _, .int _] [] hH2 ⟨u251, _, rfl⟩ rfl rfl rfl rfl rfl (k_copy 0 0 229 hH2 (by decide) (by decide) (by decide) rfl rfl (by omega) (by omega) (by omega) (by omega) (by omega) (by decide) (fun hp18 hH18 F18 E18 => ⟨_, rfl, ?_⟩))
  have r18 : ∀ i, i < 229 → rN hp18 68 i = rN hp 67 i := fun i hi => by rw [E18 i hi, if_pos (by omega), Nat.zero_add, Nat.sub_zero]; exact rU_ne U2 (by first | decide | exact (fun z => absurd z.1 (by decide)) | omega)
  have P18 : P0 hp18 := P0_no (P0_W (W := [(66, 7)]) (by decide) (rU_fr U2 rfl) hP) F18 (fun z => absurd z (by decide)) (fun z => absurd z (by decide)) (fun z => absurd z (by decide)) (by decide) (by decide)
  refine xald 22 ⟨u251, _, rfl⟩ rfl rfl ?_
  refine xcst 23 (3) ⟨u251, _, rfl⟩ rfl (by decide) (fun z22 h22 => ?_)
  refine xcall 26 [.ref 66, .int _] [] hH18 ⟨u251, _, rfl⟩ rfl rfl rfl rfl rfl (k_emz hH18 (by omega) (by omega) (fun hp23 hH23 F23 Z23 M23 W23 => ⟨_, rfl, ?_⟩))
  have P23 : P0 hp23 := P0_67 F23 P18 (hE_V M23 (by omega) (by omega))
  refine xald 27 ⟨u251, _, rfl⟩ rfl rfl ?_
  refine xcst 28 (0) ⟨u251, _, rfl⟩ rfl (by decide) (fun z27 h27 => ?_)
  refine xputI 31 hH23 ⟨u251, _, rfl⟩ rfl rfl ⟨rfl, rfl⟩ (by omega) (by omega) (fun hp28 hH28 U28 => ?_)
  refine xald 32 ⟨u251, _, rfl⟩ rfl rfl ?_
  refine xcst 33 (-1) ⟨u251, _, rfl⟩ rfl (by decide) (fun z32 h32 => ?_)
  refine xputI 36 hH28 ⟨u251, _, rfl⟩ rfl rfl ⟨rfl, rfl⟩ (by omega) (by omega) (fun hp33 hH33 U33 => ?_)
  refine xald 37 ⟨u251, _, rfl⟩ rfl rfl ?_
  refine xcst 38 (0) ⟨u251, _, rfl⟩ rfl (by decide) (fun z37 h37 => ?_)
  refine xputI 41 hH33 ⟨u251, _, rfl⟩ rfl rfl ⟨rfl, rfl⟩ (by omega) (by omega) (fun hp38 hH38 U38 => ?_)
  have F38 : bFr [(66, 24), (66, 25), (66, 26)] hp23 hp38 := ((rU_fr U28 (by decide)).trans (rU_fr U33 (by decide))).trans (rU_fr U38 (by decide))
  have P38 : P0 hp38 := P0_W (W := [(66, 24), (66, 25), (66, 26)]) (by decide) F38 P23
  have b38 := rb_fld hH38 (f := 21) (lo := 2147483648) (hi := 2147484248) rfl
  have s38 := U38.1
  have Y38 : rB hp38 = y := by rw [rB_F F38 rfl (fun _ => rfl), rB_F F23 rfl (fun _ => rfl), rB_F F18 rfl (fun _ => rfl), rB_U U2 (by decide), Y]
  refine xald 42 ⟨u251, _, rfl⟩ rfl rfl ?_
  refine xcall 45 [.ref 66] [] hH38 ⟨u251, _, rfl⟩ rfl rfl rfl rfl rfl (k_radv hH38 Y38 (p := 0) (by omega) (by omega) (fun hp42 hH42 F42 Y42 T42 => ⟨_, rfl, ?_⟩))
  have P42 : P0 hp42 := P0_W (W := wAdv) (by decide) F42 P38
  have e42 : rN hp42 66 24 = 0 := by
    have a := U28.1
    have b : rN hp33 66 24 = rN hp28 66 24 := rU_ne U33 (by first | decide | exact (fun z => absurd z.1 (by decide)) | omega)
    have c : rN hp38 66 24 = rN hp33 66 24 := rU_ne U38 (by first | decide | exact (fun z => absurd z.1 (by decide)) | omega)
    have f : rN hp42 66 24 = rN hp38 66 24 := r_fr F42 rfl
    omega
  have o42 : rN hp42 66 25 = -1 := by
    have a := U33.1
    have c : rN hp38 66 25 = rN hp33 66 25 := rU_ne U38 (by first | decide | exact (fun z => absurd z.1 (by decide)) | omega)
    have f : rN hp42 66 25 = rN hp38 66 25 := r_fr F42 rfl
    omega
  have M42 : hE hp42 := fun i g1 g2 => by rw [show rN hp42 67 i = rN hp38 67 i from r_fr F42 rfl, show rN hp38 67 i = rN hp23 67 i from r_fr F38 rfl]; exact M23 i g1 g2
  refine xald 46 ⟨u251, _, rfl⟩ rfl rfl ?_
  refine xcall 49 [.ref 66] [] hH42 ⟨u251, _, rfl⟩ rfl rfl rfl rfl rfl (k_rrx hH42 P42 M42 Y42 T42 e42 (fun z46 hp46 hH46 hP46 F46 r46 => ⟨_, rfl, ?_⟩))
  refine xist 50 ⟨u251, _, rfl⟩ rfl rfl ?_
  refine xald 51 ⟨u251, _, rfl⟩ rfl rfl ?_
  refine xcst 52 (0) ⟨u251, _, rfl⟩ rfl (by decide) (fun z51 h51 => ?_)
  refine xputI 55 hH46 ⟨u251, _, rfl⟩ rfl rfl ⟨rfl, rfl⟩ (by omega) (by omega) (fun hp52 hH52 U52 => ?_)
  refine xald 56 ⟨u251, _, rfl⟩ rfl rfl ?_
  refine xald 57 ⟨u251, _, rfl⟩ rfl rfl ?_
  refine xgetI 60 hH52 ⟨u251, _, rfl⟩ rfl rfl (fun z57 h57 => ?_)
  have m57 := aMin z57
  have x57 := aMax z57
  refine xputI 63 hH52 ⟨u251, _, rfl⟩ rfl rfl ⟨rfl, rfl⟩ (by omega) (by omega) (fun hp60 hH60 U60 => ?_)
  refine xald 64 ⟨u251, _, rfl⟩ rfl rfl ?_
  refine xald 65 ⟨u251, _, rfl⟩ rfl rfl ?_
  refine xgetI 68 hH60 ⟨u251, _, rfl⟩ rfl rfl (fun z65 h65 => ?_)
  have m65 := aMin z65
  have x65 := aMax z65
  refine xputI 71 hH60 ⟨u251, _, rfl⟩ rfl rfl ⟨rfl, rfl⟩ (by omega) (by omega) (fun hp68 hH68 U68 => ?_)
  have F68 : bFr [(66, 21), (66, 22), (66, 23)] hp46 hp68 := ((rU_fr U52 (by decide)).trans (rU_fr U60 (by decide))).trans (rU_fr U68 (by decide))
  have P68 : P0 hp68 := P0_W (W := [(66, 21), (66, 22), (66, 23)]) (by decide) F68 hP46
  have c68 : rN hp68 66 22 = rN hp46 66 24 := by
    have a : rN hp52 66 24 = rN hp46 66 24 := rU_ne U52 (by first | decide | exact (fun z => absurd z.1 (by decide)) | omega)
    have b := U60.1
    have c : rN hp68 66 22 = rN hp60 66 22 := rU_ne U68 (by first | decide | exact (fun z => absurd z.1 (by decide)) | omega)
    omega
  have d68 : rN hp68 66 23 = rN hp46 66 25 := by
    have a : rN hp52 66 25 = rN hp46 66 25 := rU_ne U52 (by first | decide | exact (fun z => absurd z.1 (by decide)) | omega)
    have b : rN hp60 66 25 = rN hp52 66 25 := rU_ne U60 (by first | decide | exact (fun z => absurd z.1 (by decide)) | omega)
    have c := U68.1
    omega
  have n68 : rN hp68 66 21 = 0 := by
    have a := U52.1
    have b : rN hp60 66 21 = rN hp52 66 21 := rU_ne U60 (by first | decide | exact (fun z => absurd z.1 (by decide)) | omega)
    have c : rN hp68 66 21 = rN hp60 66 21 := rU_ne U68 (by first | decide | exact (fun z => absurd z.1 (by decide)) | omega)
    omega
  have G68 : bFr wLd hp hp68 := ((((((rU_fr U2 (by decide)).trans (bFr_sub F18 (by decide))).trans (bFr_sub F23 (by decide))).trans (bFr_sub F38 (by decide))).trans (bFr_sub F42 (by decide))).trans (bFr_sub F46 (by decide))).trans (bFr_sub F68 (by decide))
  refine xild 72 ⟨u251, _, rfl⟩ rfl rfl ?_
  refine xif_ne 75 ⟨u251, _, rfl⟩ rfl (fun c72 => ?_) (fun c72 => ?_)
  · refine xald 94 ⟨u251, _, rfl⟩ rfl rfl ?_
    refine xcst 95 (0) ⟨u251, _, rfl⟩ rfl (by decide) (fun z94 h94 => ?_)
    refine xputI 98 hH68 ⟨u251, _, rfl⟩ rfl rfl ⟨rfl, rfl⟩ (by omega) (by omega) (fun hp95 hH95 U95 => ?_)
    refine xald 99 ⟨u251, _, rfl⟩ rfl rfl ?_
    refine xcst 100 (0) ⟨u251, _, rfl⟩ rfl (by decide) (fun z99 h99 => ?_)
    refine xputI 103 hH95 ⟨u251, _, rfl⟩ rfl rfl (by rw [show z99 = 0 from Int32.toInt_inj.mp h99]; exact ⟨rfl, rfl⟩) (by omega) (by omega) (fun hp100 hH100 U100 => ?_)
    have F100 : bFr [(66, 5), (66, 6)] hp68 hp100 := (rU_fr U95 (by decide)).trans (rU_fr U100 (by decide))
    have hP100 : P0 hp100 := P0_56 F100 (by
      have a := U95.1
      have b : rN hp100 66 5 = rN hp95 66 5 := rU_ne U100 (by first | decide | exact (fun z => absurd z.1 (by decide)) | omega)
      omega) (by
      have a := U100.1
      omega) P68
    obtain ⟨q, eq⟩ : ∃ q, tRd y = .inr q := by
      cases e : tRd y with
      | inr q => exact ⟨q, rfl⟩
      | inl er => unfold rRt at r46; rw [e] at r46; have := r46.1; omega
    unfold rRt at r46
    rw [eq] at r46
    obtain ⟨-, r2, r3, r4, r5⟩ := r46
    have B100 : rdOk hp100 q.1 q.2 := rdOk_fr r2 (fun i => (r_fr F100 rfl).trans (r_fr F68 rfl))
    refine xald 104 ⟨u251, _, rfl⟩ rfl rfl ?_
    refine xcall 107 [.ref 66] [] hH100 ⟨u251, _, rfl⟩ rfl rfl rfl rfl rfl (k_rtm hH100 B100 (fun z104 hp104 hH104 F104 B104 L104 e104 => ⟨_, rfl, ?_⟩))
    have hP104 : P0 hp104 := P0_W (W := bLT) (by decide) F104 hP100
    exact xret ⟨u251, _, rfl⟩ rfl (hR _ hp104 hH104 hP104 ((G68.trans (bFr_sub F100 (by decide))).trans (bFr_sub F104 (by decide))) (by
      rw [show rN hp104 66 21 = rN hp100 66 21 from r_fr F104 rfl, show rN hp100 66 21 = rN hp68 66 21 from r_fr F100 rfl]; exact n68) (by
      unfold rL3
      rw [eq]
      have a : rN hp104 66 22 = rN hp68 66 22 := (r_fr F104 rfl).trans (r_fr F100 rfl)
      have b : rN hp104 66 23 = rN hp68 66 23 := (r_fr F104 rfl).trans (r_fr F100 rfl)
      have z67 : ∀ i, 1 ≤ i → i < 4 → rN hp104 67 i = 0 := fun i g1 g2 => by
        rw [show rN hp104 67 i = rN hp100 67 i from r_fr F104 rfl, show rN hp100 67 i = rN hp68 67 i from r_fr F100 rfl, show rN hp68 67 i = rN hp46 67 i from r_fr F68 rfl, r5 i g1 g2, show rN hp42 67 i = rN hp38 67 i from r_fr F42 rfl, show rN hp38 67 i = rN hp23 67 i from r_fr F38 rfl]
        exact W23 i g1 g2
      exact ⟨e104, by omega, by omega, rd_rowOk B104 (fun i hi => z67 (i + 1) (by omega) (by omega)), by rw [show rN hp104 66 5 = rN hp100 66 5 from r_fr F104 rfl, rU_ne U100 (by first | decide | exact (fun z => absurd z.1 (by decide)) | omega), U95.1]; exact h94, Nat.zero_le _, fun k hk => absurd hk (Nat.not_lt_zero k), by show rN hp104 66 6 = 0; rw [show rN hp104 66 6 = rN hp100 66 6 from r_fr F104 rfl, U100.1]; exact h99⟩))
  · refine xald 76 ⟨u251, _, rfl⟩ rfl rfl ?_
    refine xgetR 79 68 hH68 ⟨u251, _, rfl⟩ rfl rfl ?_
    refine xcst 80 (0) ⟨u251, _, rfl⟩ rfl (by decide) (fun z79 h79 => ?_)
    refine xald 81 ⟨u251, _, rfl⟩ rfl rfl ?_
    refine xgetR 84 67 hH68 ⟨u251, _, rfl⟩ rfl rfl ?_
    refine xcst 85 (0) ⟨u251, _, rfl⟩ rfl (by decide) (fun z84 h84 => ?_)
    refine xsip 88 (229) ⟨u251, _, rfl⟩ rfl (by decide) (fun z85 h85 => ?_)
    refine xcallS 91 [.ref 68, .int _, .ref 67, .int _, .int _] [] hH68 ⟨u251, _, rfl⟩ rfl rfl rfl rfl rfl (k_copy 0 0 229 hH68 (by decide) (by decide) (by decide) rfl rfl (by omega) (by omega) (by omega) (by omega) (by omega) (by decide) (fun hp88 hH88 F88 E88 => ⟨_, rfl, ?_⟩))
    have r88 : ∀ i, i < 229 → rN hp88 67 i = rN hp 67 i := fun i hi => by
      rw [E88 i hi, if_pos (by omega), Nat.zero_add, Nat.sub_zero, show rN hp68 68 i = rN hp46 68 i from r_fr F68 rfl, show rN hp46 68 i = rN hp42 68 i from r_fr F46 rfl, show rN hp42 68 i = rN hp38 68 i from r_fr F42 rfl, show rN hp38 68 i = rN hp23 68 i from r_fr F38 rfl, show rN hp23 68 i = rN hp18 68 i from r_fr F23 rfl]
      exact r18 i hi
    refine xcst 92 (-1) ⟨u251, _, rfl⟩ rfl (by decide) (fun z91 h91 => ?_)
    exact xret ⟨u251, _, rfl⟩ rfl (hR _ hp88 hH88 (P0_67 F88 P68 (Vf_eq r88 hP.1)) (G68.trans (bFr_sub F88 (by decide))) ((r_fr F88 rfl).trans n68) (by
      unfold rRt at r46
      unfold rL3
      cases e : tRd y with
      | inr q => rw [e] at r46; have := r46.1; omega
      | inl er =>
        rw [e] at r46
        obtain ⟨-, r2, r3⟩ := r46
        have a : rN hp88 66 22 = rN hp68 66 22 := r_fr F88 rfl
        have b : rN hp88 66 23 = rN hp68 66 23 := r_fr F88 rfl
        have g5 : ∀ i, i = 5 ∨ i = 6 → rN hp88 66 i = rN hp 66 i := fun i hi => by
          rcases hi with rfl | rfl
          · rw [show rN hp88 66 5 = rN hp68 66 5 from r_fr F88 rfl, show rN hp68 66 5 = rN hp46 66 5 from r_fr F68 rfl, show rN hp46 66 5 = rN hp42 66 5 from r_fr F46 rfl, show rN hp42 66 5 = rN hp38 66 5 from r_fr F42 rfl, show rN hp38 66 5 = rN hp23 66 5 from r_fr F38 rfl, show rN hp23 66 5 = rN hp18 66 5 from r_fr F23 rfl, show rN hp18 66 5 = rN hp2 66 5 from r_fr F18 rfl, rU_ne U2 (by first | decide | exact (fun z => absurd z.1 (by decide)) | omega)]
          · rw [show rN hp88 66 6 = rN hp68 66 6 from r_fr F88 rfl, show rN hp68 66 6 = rN hp46 66 6 from r_fr F68 rfl, show rN hp46 66 6 = rN hp42 66 6 from r_fr F46 rfl, show rN hp42 66 6 = rN hp38 66 6 from r_fr F42 rfl, show rN hp38 66 6 = rN hp23 66 6 from r_fr F38 rfl, show rN hp23 66 6 = rN hp18 66 6 from r_fr F23 rfl, show rN hp18 66 6 = rN hp2 66 6 from r_fr F18 rfl, rU_ne U2 (by first | decide | exact (fun z => absurd z.1 (by decide)) | omega)]
        have g7 : ∀ c i, c = 70 ∨ c = 71 → rN hp88 c i = rN hp c i := fun c i hc => by
          rcases hc with rfl | rfl
          · rw [show rN hp88 70 i = rN hp68 70 i from r_fr F88 rfl, show rN hp68 70 i = rN hp46 70 i from r_fr F68 rfl, show rN hp46 70 i = rN hp42 70 i from r_fr F46 rfl, show rN hp42 70 i = rN hp38 70 i from r_fr F42 rfl, show rN hp38 70 i = rN hp23 70 i from r_fr F38 rfl, show rN hp23 70 i = rN hp18 70 i from r_fr F23 rfl, show rN hp18 70 i = rN hp2 70 i from r_fr F18 rfl, rU_ne U2 (by first | decide | exact (fun z => absurd z.1 (by decide)) | omega)]
          · rw [show rN hp88 71 i = rN hp68 71 i from r_fr F88 rfl, show rN hp68 71 i = rN hp46 71 i from r_fr F68 rfl, show rN hp46 71 i = rN hp42 71 i from r_fr F46 rfl, show rN hp42 71 i = rN hp38 71 i from r_fr F42 rfl, show rN hp38 71 i = rN hp23 71 i from r_fr F38 rfl, show rN hp23 71 i = rN hp18 71 i from r_fr F23 rfl, show rN hp18 71 i = rN hp2 71 i from r_fr F18 rfl, rU_ne U2 (by first | decide | exact (fun z => absurd z.1 (by decide)) | omega)]
        exact ⟨by omega, by omega, by omega, rowOk_eq hS.1 r88, hyR_fr hS.2 (g5 5 (Or.inl rfl)) (g5 6 (Or.inr rfl)) (fun i => g7 70 i (Or.inl rfl)) (fun i => g7 71 i (Or.inr rfl))⟩))
end
/-! ##### 19.m.071.37a ##### -/
section
/-! ===== two points exchanged ===== -/
noncomputable def sw (a b p : Nat) : Nat := if p = a then b else if p = b then a else p
theorem sw_ab {a b p : Nat} : (p = a ∧ sw a b p = b) ∨ (¬ p = a ∧ p = b ∧ sw a b p = a) ∨ (¬ p = a ∧ ¬ p = b ∧ sw a b p = p) := by
  unfold sw
  by_cases h : p = a
  · rw [if_pos h]; exact Or.inl ⟨h, rfl⟩
  · rw [if_neg h]
    by_cases h2 : p = b
    · rw [if_pos h2]; exact Or.inr (Or.inl ⟨h, h2, rfl⟩)
    · rw [if_neg h2]; exact Or.inr (Or.inr ⟨h, h2, rfl⟩)
theorem sw_sw (a b p : Nat) : sw a b (sw a b p) = p := by
  have h1 := sw_ab (a := a) (b := b) (p := p)
  have h2 := sw_ab (a := a) (b := b) (p := sw a b p)
  omega
theorem sPm_sw {V a b : Nat} (ha : a < V) (hb : b < V) : sPm V (sw a b) := by
  refine ⟨fun u hu => ?_, fun u v _ _ e => ?_, fun p hp => ⟨sw a b p, ?_, sw_sw a b p⟩⟩
  · have := sw_ab (a := a) (b := b) (p := u); omega
  · have := congrArg (sw a b) e
    rw [sw_sw, sw_sw] at this
    exact this
  · have := sw_ab (a := a) (b := b) (p := p); omega
/-- a set with two points exchanged -/
noncomputable def exN (a b m : Nat) : Nat := if m.testBit a = m.testBit b then m else m ^^^ (2 ^ a ||| 2 ^ b)
theorem dx_t {D P : Prop} [Decidable D] [Decidable P] (h : D ↔ ¬ P) : (decide D ^^ true) = decide P := by
  by_cases g : P
  · rw [decide_eq_true g, decide_eq_false (fun k => (h.mp k) g)]; rfl
  · rw [decide_eq_false g, decide_eq_true (h.mpr g)]; rfl
theorem ex_m3 {a b x y z : Nat} (hab : ¬ a = b) (hxy : ¬ x = y) (hyz : ¬ y = z) (hxz : ¬ x = z) : exN a b (m3 x y z) = m3 (sw a b x) (sw a b y) (sw a b z) := by
  have q : ∀ p, (p = sw a b x ∨ p = sw a b y ∨ p = sw a b z) ↔ (sw a b p = x ∨ sw a b p = y ∨ sw a b p = z) := fun p => by
    have e : ∀ w, p = sw a b w ↔ sw a b p = w := fun w => ⟨fun h => by rw [h, sw_sw], fun h => by rw [← h, sw_sw]⟩
    rw [e, e, e]
  have ta := m3_test x y z a
  have tb := m3_test x y z b
  apply Nat.eq_of_testBit_eq
  intro p
  rw [m3_test (sw a b x)]
  unfold exN
  have s := sw_ab (a := a) (b := b) (p := p)
  have qp := q p
  by_cases h : (m3 x y z).testBit a = (m3 x y z).testBit b
  · rw [if_pos h, m3_test, decide_eq_decide, qp]
    rw [ta, tb, decide_eq_decide] at h
    rcases s with ⟨s1, s2⟩ | ⟨s1, s2, s3⟩ | ⟨s1, s2, s3⟩
    · rw [s2, s1]; exact h
    · rw [s3, s2]; exact h.symm
    · rw [s3]
  · rw [if_neg h, Nat.testBit_xor, Nat.testBit_or, p2_test, p2_test, m3_test]
    have hd : ¬ ((a = x ∨ a = y ∨ a = z) ↔ (b = x ∨ b = y ∨ b = z)) := fun k => h (by rw [ta, tb, decide_eq_decide]; exact k)
    rcases s with ⟨s1, s2⟩ | ⟨s1, s2, s3⟩ | ⟨s1, s2, s3⟩
    · rw [s2] at qp
      rw [show decide (p = a) = true from decide_eq_true s1, Bool.true_or]
      refine dx_t ?_
      rw [qp]
      rw [← s1] at hd
      by_cases g : b = x ∨ b = y ∨ b = z
      · exact ⟨fun k => absurd ⟨fun _ => g, fun _ => k⟩ hd, fun k => absurd g k⟩
      · exact ⟨fun _ => g, fun _ => Classical.byContradiction fun w => hd ⟨fun k => absurd k w, fun k => absurd k g⟩⟩
    · rw [s3] at qp
      rw [show decide (p = b) = true from decide_eq_true s2, Bool.or_true]
      refine dx_t ?_
      rw [qp]
      rw [← s2] at hd
      by_cases g : a = x ∨ a = y ∨ a = z
      · exact ⟨fun k => absurd ⟨fun _ => k, fun _ => g⟩ hd, fun k => absurd g k⟩
      · exact ⟨fun _ => g, fun _ => Classical.byContradiction fun w => hd ⟨fun k => absurd k g, fun k => absurd k w⟩⟩
    · rw [s3] at qp
      rw [decide_eq_false s1, decide_eq_false s2, Bool.or_self, Bool.xor_false, decide_eq_decide]
      exact qp.symm
theorem u72 : bUp 0 am_m72.1 = true := by decide +kernel
theorem k_exch {d m x y : Nat} {hp : amH} {R : xQ} {s a b : Int32} (hH : bHk 84 bTT hp) (hs : s.toInt = (m : Int)) (hm : m < 32768) (ha : a.toInt = (x : Int)) (hb : b.toInt = (y : Int)) (hx : x < 15) (hy : y < 15) (hR : ∀ r : Int32, r.toInt = ((exN x y m : Nat) : Int) → R (.inl (some (.int r))) hp) : xK (d + 1) 72 [.int s, .int a, .int b] hp R := by
  refine xin (M := am_m72) rfl rfl rfl ?_
  refine xild 1 ⟨u72, _, rfl⟩ rfl rfl ?_
  refine xild 2 ⟨u72, _, rfl⟩ rfl rfl ?_
  refine xcallS 5 [.int _, .int _] [] hH ⟨u72, _, rfl⟩ rfl rfl rfl rfl rfl (k_has hs hm ha hx (fun z2 h2 => ⟨_, rfl, ?_⟩))
  refine xild 6 ⟨u72, _, rfl⟩ rfl rfl ?_
  refine xild 7 ⟨u72, _, rfl⟩ rfl rfl ?_
  refine xcallS 10 [.int _, .int _] [.int _] hH ⟨u72, _, rfl⟩ rfl rfl rfl rfl rfl (k_has hs hm hb hy (fun z7 h7 => ⟨_, rfl, ?_⟩))
  have tt : m.testBit x = m.testBit y ↔ z2.toInt = z7.toInt := by
    rw [h2, h7]
    cases m.testBit x <;> cases m.testBit y <;> simp
  refine xcmp_ne 13 ⟨u72, _, rfl⟩ rfl (fun c10 => ?_) (fun c10 => ?_)
  · refine xild 18 ⟨u72, _, rfl⟩ rfl rfl ?_
    refine xcst 19 (1) ⟨u72, _, rfl⟩ rfl (by decide) (fun z18 h18 => ?_)
    refine xild 20 ⟨u72, _, rfl⟩ rfl rfl ?_
    refine xshl 21 ⟨u72, _, rfl⟩ rfl ?_
    refine xcst 22 (1) ⟨u72, _, rfl⟩ rfl (by decide) (fun z21 h21 => ?_)
    refine xild 23 ⟨u72, _, rfl⟩ rfl rfl ?_
    refine xshl 24 ⟨u72, _, rfl⟩ rfl ?_
    refine xor_ 25 ⟨u72, _, rfl⟩ rfl ?_
    refine xxor 26 ⟨u72, _, rfl⟩ rfl ?_
    have w1 := i_shl h18 ha hx
    have w2 := i_shl h21 hb hy
    have w3 := i_or w1.1 w2.1 w1.2 w2.2
    exact xret ⟨u72, _, rfl⟩ rfl (hR _ (by unfold exN; rw [if_neg (fun k => c10 (tt.mp k))]; exact (i_xor hs w3.1 hm w3.2).1))
  · refine xild 14 ⟨u72, _, rfl⟩ rfl rfl ?_
    refine xgoto ⟨u72, _, rfl⟩ ?_
    exact xret ⟨u72, _, rfl⟩ rfl (hR _ (by unfold exN; rw [if_pos (tt.mpr c10)]; exact hs))
end
/-! ##### 19.m.072.37b ##### -/
section
/-! ===== the class swaps two points ===== -/
/-- how many triples numbered below n are led to triples that are there -/
noncomputable def hC (σ : Nat → Nat) (T : sT) : Nat → Nat
  | 0 => 0
  | n + 1 => hC σ T n + (if trB T n = true ∧ T (σ (n / 15)) (σ (n % 15)) = ((σ (T (n / 15) (n % 15)).toNat : Nat) : Int) then 1 else 0)
theorem hC_len {σ : Nat → Nat} {T : sT} {n : Nat} : ∀ k, (trL T (n + k)).length = (trL T n).length → hC σ T (n + k) = hC σ T n
  | 0, _ => rfl
  | k + 1, h => by
    have e : (trL T (n + (k + 1))) = (if trB T (n + k) = true then trL T (n + k) ++ [n + k] else trL T (n + k)) := rfl
    have m := trL_mono (T := T) n k
    rw [e] at h
    split at h
    · rw [List.length_append, List.length_singleton] at h
      omega
    · next g =>
      have ih := hC_len (σ := σ) k h
      show hC σ T (n + k) + (if _ then 1 else 0) = _
      rw [if_neg (fun z => g z.1)]
      exact ih
theorem hC_eq {σ : Nat → Nat} {T : sT} {n m : Nat} (h : (trL T n).length = (trL T m).length) : hC σ T n = hC σ T m := by
  rcases Nat.le_total n m with g | g
  · obtain ⟨k, rfl⟩ := Nat.exists_eq_add_of_le g
    exact (hC_len k h.symm).symm
  · obtain ⟨k, rfl⟩ := Nat.exists_eq_add_of_le g
    exact hC_len k h
/-- the next triple led -/
theorem mv_next {V : Nat} {T : sT} {σ : Nat → Nat} (hT : sOk V T) (hs : sPm V σ) {t m : Nat} (ht : t < (trL T 225).length) (hm : (trL T m).length = t) : ∃ n x y z : Nat, mN T t = m3 x y z ∧ x < y ∧ y < z ∧ z < V ∧ T x y = (z : Int) ∧ n / 15 = x ∧ n % 15 = y ∧ (trL T 225).getD t 0 = n ∧ (trL T (n + 1)).length = t + 1 ∧ pG σ T (n + 1) = sPut (pG σ T m) (σ x) (σ y) (σ z) ∧ sFree (pG σ T m) (σ x) (σ y) (σ z) ∧ hC σ T (n + 1) = hC σ T m + (if T (σ x) (σ y) = ((σ z : Nat) : Int) then 1 else 0) := by
  obtain ⟨n, x, y, z, k1, k2, k3, k4, k5, k6, k7, k8, k9, k10, k11, k12⟩ := pG_next hT hs ht hm
  obtain ⟨g1, g2, g3⟩ := trL_get 225 t ht
  rw [k1] at g1 g3
  have e : hC σ T n = hC σ T m := hC_eq (g3.trans hm.symm)
  refine ⟨n, x, y, z, by unfold mN; rw [k1]; exact k5, k6, k7, k8, k4, k2, k3, k1, k10, k11, k12, ?_⟩
  show hC σ T n + (if trB T n = true ∧ T (σ (n / 15)) (σ (n % 15)) = ((σ (T (n / 15) (n % 15)).toNat : Nat) : Int) then 1 else 0) = _
  rw [e, k2, k3, k4, Int.toNat_natCast]
  by_cases h : T (σ x) (σ y) = ((σ z : Nat) : Int)
  · rw [if_pos ⟨g1, h⟩, if_pos h]
  · rw [if_neg (fun w => h w.2), if_neg h]
theorem u167 : bUp 0 am_m167.1 = true := by decide +kernel
theorem l167E {d V x y : Nat} {T : sT} {hp0 : amH} {R : xQ} {a b : Int32} (hB0 : bdOk hp0 3 V T) (hL0 : lsN hp0 3 T 225) (ha : a.toInt = (x : Int)) (hb : b.toInt = (y : Int)) (hx : x < V) (hy : y < V) (hxy : ¬ x = y)
    (hQ : ∀ (w wt : Int32) (v5 : Option Value) hp1, bHk 84 bTT hp1 → bFx [9, 11] hp0 hp1 → bdOk hp1 8 V (pG (sw x y) T 225) → w.toInt + ((hC (sw x y) T 225 : Nat) : Int) = (((trL T 225).length : Nat) : Int) → xV (d + 6) am_m167 92 [some (.ref 0), some (.int a), some (.int b), some (.int w), some (.int wt), v5] [] hp1 R) :
    ∀ (jj t m : Nat) (w wt : Int32) (v5 : Option Value) (hp : amH), wt.toInt = (t : Int) → t + jj = (trL T 225).length → (trL T m).length = t → bHk 84 bTT hp → bFx [9, 11] hp0 hp → bdOk hp 8 V (pG (sw x y) T m) → w.toInt + ((hC (sw x y) T m : Nat) : Int) = (t : Int) → 0 ≤ w.toInt → xV (d + 6) am_m167 29 [some (.ref 0), some (.int a), some (.int b), some (.int w), some (.int wt), v5] [] hp R := by
  have hT := hB0.2.1
  have hV := hT.2.1
  have l35 := trL_35 hT 225
  have hs := sPm_sw (V := V) hx hy
  intro jj
  induction jj with
  | zero =>
    intro t m w wt v5 hp hwt hj hm hH hF hB hw hge
    have e1 : rN hp 3 1 = rN hp0 3 1 := bFx_n hF (by simp)
    have L1 := hL0.1
    have eT : pG (sw x y) T m = pG (sw x y) T 225 := pG_eq (by omega)
    have eC : hC (sw x y) T m = hC (sw x y) T 225 := hC_eq (by omega)
    rw [eT] at hB
    rw [eC] at hw
    refine xild2 31 ⟨u167, _, rfl⟩ rfl rfl ?_
    refine xald 32 ⟨u167, _, rfl⟩ rfl rfl ?_
    refine xgetD 35 (3) hH ⟨u167, _, rfl⟩ rfl (by decide) (by decide) rfl rfl (by decide) ?_
    refine xgetC 38 hH ⟨u167, _, rfl⟩ rfl (by decide) (by decide) rfl rfl (by decide) (fun z35 h35 => ?_)
    refine xcmp_ge 41 ⟨u167, _, rfl⟩ rfl (fun c38 => ?_) (fun c38 => ?_)
    · exact hQ _ _ _ hp hH hF hB (by omega)
    · omega
  | succ jj ih =>
    intro t m w wt v5 hp hwt hj hm hH hF hB hw hge
    have e1 : rN hp 3 1 = rN hp0 3 1 := bFx_n hF (by simp)
    have L1 := hL0.1
    have hL : lsN hp 3 T 225 := lsN_fr hL0 (bFx_n hF (by simp)) (fun _ => bFx_n hF (by simp)) (fun _ => bFx_n hF (by simp))
    have hB3 : bdOk hp 3 V T := bdOk_fr hB0 (bFx_n hF (by simp)) (fun _ => bFx_n hF (by simp)) (fun _ => bFx_n hF (by simp))
    obtain ⟨n, u, v, z, q1, q2, q3, q4, q5, -, -, -, q6, q7, q8, q9⟩ := mv_next hT hs (t := t) (by omega) hm
    have ml := (mN_lt hT (show t < (trL T 225).length by omega)).1
    have ex := ex_m3 (a := x) (b := y) (x := u) (y := v) (z := z) hxy (by omega) (by omega) (by omega)
    have bu := hs.1 u (by omega)
    have bv := hs.1 v (by omega)
    have bz := hs.1 z (by omega)
    have nuv : ¬ sw x y u = sw x y v := fun k => by have := hs.2.1 _ _ (by omega) (by omega) k; omega
    have nvz : ¬ sw x y v = sw x y z := fun k => by have := hs.2.1 _ _ (by omega) (by omega) k; omega
    have nuz : ¬ sw x y u = sw x y z := fun k => by have := hs.2.1 _ _ (by omega) (by omega) k; omega
    refine xild2 31 ⟨u167, _, rfl⟩ rfl rfl ?_
    refine xald 32 ⟨u167, _, rfl⟩ rfl rfl ?_
    refine xgetD 35 (3) hH ⟨u167, _, rfl⟩ rfl (by decide) (by decide) rfl rfl (by decide) ?_
    refine xgetC 38 hH ⟨u167, _, rfl⟩ rfl (by decide) (by decide) rfl rfl (by decide) (fun z35 h35 => ?_)
    refine xcmp_ge 41 ⟨u167, _, rfl⟩ rfl (fun c38 => ?_) (fun c38 => ?_)
    · omega
    · refine xald 42 ⟨u167, _, rfl⟩ rfl rfl ?_
      refine xgetD 45 (3) hH ⟨u167, _, rfl⟩ rfl (by decide) (by decide) rfl rfl (by decide) ?_
      refine xild2 47 ⟨u167, _, rfl⟩ rfl rfl ?_
      refine xcallC 50 (o := 3) [.int _] [] hH ⟨u167, _, rfl⟩ rfl rfl (by decide) rfl (by decide) rfl ⟨rfl, rfl, rfl, rfl⟩ rfl (k_setL hH hL (t := t) (by omega) (by omega) (fun z47 h47 => ⟨_, rfl, ?_⟩))
      refine xild 51 ⟨u167, _, rfl⟩ rfl rfl ?_
      refine xild 52 ⟨u167, _, rfl⟩ rfl rfl ?_
      refine xcallS 55 [.int _, .int _, .int _] [] hH ⟨u167, _, rfl⟩ rfl rfl rfl rfl rfl (k_exch hH h47 ml ha hb (by omega) (by omega) (fun z52 h52 => ⟨_, rfl, ?_⟩))
      rw [q1, ex] at h52
      refine xist2 57 ⟨u167, _, rfl⟩ rfl rfl ?_
      refine xald 58 ⟨u167, _, rfl⟩ rfl rfl ?_
      refine xgetD 61 (8) hH ⟨u167, _, rfl⟩ rfl (by decide) (by decide) rfl rfl (by decide) ?_
      refine xild2 63 ⟨u167, _, rfl⟩ rfl rfl ?_
      refine xcallC 66 (o := 8) [.int _] [] hH ⟨u167, _, rfl⟩ rfl rfl (by decide) rfl (by decide) rfl ⟨rfl, rfl, rfl, rfl⟩ rfl (k_bputU (o := 8) (Or.inr rfl) hH hB h52 bu bv bz nuv nvz nuz q8 (fun hp63 hH63 F63 B63 => ⟨_, rfl, ?_⟩))
      have B3 : bdOk hp63 3 V T := bdOk_fr hB3 (bFx_n F63 (by simp)) (fun _ => bFx_n F63 (by simp)) (fun _ => bFx_n F63 (by simp))
      refine xild 67 ⟨u167, _, rfl⟩ rfl rfl ?_
      refine xald 68 ⟨u167, _, rfl⟩ rfl rfl ?_
      refine xgetD 71 (3) hH63 ⟨u167, _, rfl⟩ rfl (by decide) (by decide) rfl rfl (by decide) ?_
      refine xild2 73 ⟨u167, _, rfl⟩ rfl rfl ?_
      refine xcallC 76 (o := 3) [.int _] [.int _] hH63 ⟨u167, _, rfl⟩ rfl rfl (by decide) rfl (by decide) rfl ⟨rfl, rfl, rfl, rfl⟩ rfl (k_hld (o := 3) (Or.inl rfl) hH63 B3 h52 bu bv bz nuv nvz nuz (fun z73 h73 => ⟨_, rfl, ?_⟩))
      refine xif_eq 79 ⟨u167, _, rfl⟩ rfl (fun c76 => ?_) (fun c76 => ?_)
      · refine xcst 84 (1) ⟨u167, _, rfl⟩ rfl (by decide) (fun z83 h83 => ?_)
        refine xadd 85 _ ⟨u167, _, rfl⟩ rfl rfl (by omega) (by omega) (fun z84 h84 => ?_)
        refine xist 86 ⟨u167, _, rfl⟩ rfl rfl ?_
        refine xinc 89 (1) ⟨u167, _, rfl⟩ rfl rfl rfl (by decide) (by omega) (by omega) (fun z86 h86 => ?_)
        refine xgoto ⟨u167, _, rfl⟩ ?_
        have hc : hC (sw x y) T (n + 1) = hC (sw x y) T m + 0 := by
          rw [q9, if_neg (by omega)]
        exact ih (t + 1) (n + 1) _ _ _ hp63 (by omega) (by omega) q6 hH63 (hF.trans (F63.mono (by simp))) (by rw [q7]; exact B63) (by rw [hc]; omega) (by omega)
      · refine xcst 80 (0) ⟨u167, _, rfl⟩ rfl (by decide) (fun z79 h79 => ?_)
        refine xgoto ⟨u167, _, rfl⟩ ?_
        refine xadd 85 _ ⟨u167, _, rfl⟩ rfl rfl (by omega) (by omega) (fun z84 h84 => ?_)
        refine xist 86 ⟨u167, _, rfl⟩ rfl rfl ?_
        refine xinc 89 (1) ⟨u167, _, rfl⟩ rfl rfl rfl (by decide) (by omega) (by omega) (fun z86 h86 => ?_)
        refine xgoto ⟨u167, _, rfl⟩ ?_
        have hc : hC (sw x y) T (n + 1) = hC (sw x y) T m + 1 := by
          rw [q9, if_pos (by omega)]
        exact ih (t + 1) (n + 1) _ _ _ hp63 (by omega) (by omega) q6 hH63 (hF.trans (F63.mono (by simp))) (by rw [q7]; exact B63) (by rw [hc]; omega) (by omega)
theorem k_167E {d V n : Nat} {h : Nat → sR} {sv : Option sR} {T : sT} {ty : Nat → Int} {hp : amH} {R : xQ} {a b : Int32} (hH : bHk 84 bTT hp) (hS : clS hp (V, T, ty) n h sv)
    (hT : ∀ E, ¬ gTwo V a.toInt b.toInt = 0 → exE (gTwo V a.toInt b.toInt) E → R (.inr E) hp)
    (hR : ∀ (z : Int32) hp1, bHk 84 bTT hp1 → cF hp hp1 → gTwo V a.toInt b.toInt = 0 → clS hp1 (V, pG (sw a.toInt.toNat b.toInt.toNat) T 225, ty) (pM n + 1) (pH n h (V, T, ty)) sv → z.toInt + ((hC (sw a.toInt.toNat b.toInt.toNat) T 225 : Nat) : Int) = (((trL T 225).length : Nat) : Int) → R (.inl (some (.int z))) hp1) : xK (d + 7) 167 [.ref 0, .int a, .int b] hp R := by
  have hB : bdOk hp 3 V T := hS.1
  have hV := hB.2.1.2.1
  have hV3 := hB.2.1.1
  refine xin (M := am_m167) rfl rfl rfl ?_
  refine xald 1 ⟨u167, _, rfl⟩ rfl rfl ?_
  refine xild 2 ⟨u167, _, rfl⟩ rfl rfl ?_
  refine xild 3 ⟨u167, _, rfl⟩ rfl rfl ?_
  refine xcallT 6 (o := 0) [.int _, .int _] [] hH ⟨u167, _, rfl⟩ rfl rfl (by decide) rfl (by decide) rfl ⟨rfl, rfl, rfl, rfl⟩ rfl (k_rq2 hH hB.1 (fun g3 => Or.inl ⟨_, rfl, ?_⟩) (fun g3 => Or.inr ⟨_, rfl, rfl, hT 1 (by omega) (Or.inl ⟨g3, rfl⟩)⟩) (fun g3 => Or.inr ⟨_, rfl, rfl, hT 0 (by omega) (Or.inr (Or.inl ⟨g3, rfl⟩))⟩))
  have k3 := gTwo_0.mp g3
  refine xald 7 ⟨u167, _, rfl⟩ rfl rfl ?_
  refine xcallC 10 (o := 0) [] [] hH ⟨u167, _, rfl⟩ rfl rfl (by decide) rfl (by decide) rfl ⟨rfl, rfl, rfl, rfl⟩ rfl (k_cmS hH hS (fun hp7 hH7 F7 S7 => ⟨_, rfl, ?_⟩))
  have bV7 : rN hp7 3 0 = (V : Int) := S7.1.1
  refine xald 11 ⟨u167, _, rfl⟩ rfl rfl ?_
  refine xgetD 14 (8) hH7 ⟨u167, _, rfl⟩ rfl (by decide) (by decide) rfl rfl (by decide) ?_
  refine xald 15 ⟨u167, _, rfl⟩ rfl rfl ?_
  refine xgetD 18 (3) hH7 ⟨u167, _, rfl⟩ rfl (by decide) (by decide) rfl rfl (by decide) ?_
  refine xgetC 21 hH7 ⟨u167, _, rfl⟩ rfl (by decide) (by decide) rfl rfl (by decide) (fun z18 h18 => ?_)
  refine xcallC 24 (o := 8) [.int _] [] hH7 ⟨u167, _, rfl⟩ rfl rfl (by decide) rfl (by decide) rfl ⟨rfl, rfl, rfl, rfl⟩ rfl (k_rst (o := 8) (V := V) (Or.inr rfl) hH7 (by omega) hV3 hV (fun hp21 hH21 F21 B21 z21 => ⟨_, rfl, ?_⟩))
  have S21 : clS hp21 (V, T, ty) (pM n + 1) (pH n h (V, T, ty)) sv := clS_8 S7 (fun c k hc => F21 c k (by simp; omega))
  refine xcst 25 (0) ⟨u167, _, rfl⟩ rfl (by decide) (fun z24 h24 => ?_)
  refine xist 26 ⟨u167, _, rfl⟩ rfl rfl ?_
  refine xcst 27 (0) ⟨u167, _, rfl⟩ rfl (by decide) (fun z26 h26 => ?_)
  refine xist2 29 ⟨u167, _, rfl⟩ rfl rfl ?_
  refine xpad 1 ?_
  refine l167E (V := V) (T := T) (x := a.toInt.toNat) (y := b.toInt.toNat) (R := R) S21.1 S21.2.1 (by omega) (by omega) (by omega) (by omega) (by omega) (fun w wt v5 hp1 hH1 F1 B1 e1 => ?_) (trL T 225).length 0 0 _ _ _ hp21 (by omega) (by omega) rfl hH21 bFx.refl B21 (by rw [h24]; rfl) (by omega)
  have S1 : clS hp1 (V, T, ty) (pM n + 1) (pH n h (V, T, ty)) sv := clS_8 S21 (fun c k hc => F1 c k (by simp; omega))
  refine xald 93 ⟨u167, _, rfl⟩ rfl rfl ?_
  refine xgetD 96 (3) hH1 ⟨u167, _, rfl⟩ rfl (by decide) (by decide) rfl rfl (by decide) ?_
  refine xald 97 ⟨u167, _, rfl⟩ rfl rfl ?_
  refine xgetD 100 (8) hH1 ⟨u167, _, rfl⟩ rfl (by decide) (by decide) rfl rfl (by decide) ?_
  refine xcallC 103 (o := 3) [.ref 8] [] hH1 ⟨u167, _, rfl⟩ rfl rfl (by decide) rfl (by decide) rfl ⟨rfl, rfl, rfl, rfl⟩ rfl (k_cpB (o := 3) (o2 := 8) (Or.inl rfl) (Or.inr rfl) (by decide) hH1 B1 (fun hp100 hH100 F100 B100 n100 => ⟨_, rfl, ?_⟩))
  refine xald 104 ⟨u167, _, rfl⟩ rfl rfl ?_
  refine xcallC 107 (o := 0) [] [] hH100 ⟨u167, _, rfl⟩ rfl rfl (by decide) rfl (by decide) rfl ⟨rfl, rfl, rfl, rfl⟩ rfl (k_stS hH100 (V := V) (T := pG (sw a.toInt.toNat b.toInt.toNat) T 225) (ty := ty) B100 (fun i hi => (bFx_n F100 (by simp)).trans (S1.2.2.2.1 i hi)) (hyC_fr S1.2.2.2.2 (fun c k c1 c2 => F100 c k (by simp; omega))) (fun hp104 hH104 F104 S104 => ⟨_, rfl, ?_⟩))
  refine xild 108 ⟨u167, _, rfl⟩ rfl rfl ?_
  exact xret ⟨u167, _, rfl⟩ rfl (hR _ _ hH104 ((cF_hy F7).trans ((cF_x F21 (by simp)).trans ((cF_x F1 (by simp)).trans ((cF_x F100 (by simp)).trans (cF_x F104 (by simp)))))) g3 S104 e1)
end
/-! ##### 19.m.073.37c ##### -/
section
/-! ===== the reference swaps two points: all taken ===== -/
theorem dP_all {V : Nat} {T : sT} (hT : sOk V T) : dP (fun _ => true) T 225 = sE := by
  funext u v
  rcases (dP_s (B := fun _ => true) hT 225).2 u v with ⟨a, -⟩ | ⟨a, b, c⟩
  · exact a
  · exact absurd ⟨cd_lt hT b, rfl⟩ c
/-- the rows of the triple numbered t -/
theorem rl_at {V : Nat} {T : sT} {hp : amH} (hT : sOk V T) (hL : rlN hp T 225) {t : Nat} (ht : t < (trL T 225).length) {x y z : Nat} (e : mN T t = m3 x y z) (h1 : x < y) (h2 : y < z) : rN hp 72 t = (x : Int) ∧ rN hp 73 t = (y : Int) ∧ rN hp 74 t = (z : Int) := by
  obtain ⟨g1, -, -⟩ := trL_get 225 t ht
  obtain ⟨w, ew, k1, k2, k3⟩ := tr_pts hT g1
  have em : mN T t = m3 ((trL T 225).getD t 0 / 15) ((trL T 225).getD t 0 % 15) w := by unfold mN mk3; rw [ew, Int.toNat_natCast]
  obtain ⟨i1, i2, i3⟩ := m3_inj (em.symm.trans e) k1 k2 h1 h2
  obtain ⟨o1, o2, o3, -⟩ := hL.2 t ht
  rw [ew] at o3
  exact ⟨by rw [o1, i1], by rw [o2, i2], by rw [o3, i3]⟩
theorem l279a {d V n : Nat} {h : Nat → sR} {sv : Option sR} {T : sT} {ty : Nat → Int} {hp0 : amH} {R : xQ} {a b w : Int32} (hT : sOk V T) (hL0 : rlN hp0 T 225)
    (hQ : ∀ (wt : Int32) (v5 v6 v7 : Option Value) hp1, bHk 84 bTT hp1 → P0 hp1 → bFr [(67, 999)] hp0 hp1 → rfS hp1 (V, sE, ty) n h sv → xV (d + 4) am_m279 80 [some (.ref 66), some (.int a), some (.int b), some (.int w), some (.int wt), v5, v6, v7] [] hp1 R) :
    ∀ (jj t m : Nat) (wt : Int32) (v5 v6 v7 : Option Value) (hp : amH), wt.toInt = (t : Int) → t + jj = (trL T 225).length → (trL T m).length = t → bHk 84 bTT hp → P0 hp → bFr [(67, 999)] hp0 hp → rfS hp (V, dP (fun _ => true) T m, ty) n h sv → xV (d + 4) am_m279 40 [some (.ref 66), some (.int a), some (.int b), some (.int w), some (.int wt), v5, v6, v7] [] hp R := by
  have l35 := trL_35 hT 225
  intro jj
  induction jj with
  | zero =>
    intro t m wt v5 v6 v7 hp hwt hj hm hH hP hF hS
    have L1 : rN hp 66 12 = (((trL T 225).length : Nat) : Int) := (r_fr hF rfl).trans hL0.1
    have eT : dP (fun _ => true) T m = sE := (dP_eq (by omega)).trans (dP_all hT)
    rw [eT] at hS
    refine xild2 42 ⟨u279, _, rfl⟩ rfl rfl ?_
    refine xald 43 ⟨u279, _, rfl⟩ rfl rfl ?_
    refine xgetI 46 hH ⟨u279, _, rfl⟩ rfl rfl (fun z43 h43 => ?_)
    refine xcmp_ge 49 ⟨u279, _, rfl⟩ rfl (fun c46 => ?_) (fun c46 => ?_)
    · exact hQ _ _ _ _ hp hH hP hF hS
    · omega
  | succ jj ih =>
    intro t m wt v5 v6 v7 hp hwt hj hm hH hP hF hS
    have hL : rlN hp T 225 := rlN_fr hL0 (r_fr hF rfl) (fun _ => r_fr hF rfl) (fun _ => r_fr hF rfl) (fun _ => r_fr hF rfl) (fun _ => r_fr hF rfl)
    have L1 := hL.1
    obtain ⟨k, x, y, z, -, q2, q3, q4, q5, q6, q7, q8, -⟩ := dP_next (B := fun _ => true) hT (t := t) (by omega) hm
    obtain ⟨o1, o2, o3⟩ := rl_at hT hL (t := t) (by omega) q2 q3 q4
    refine xild2 42 ⟨u279, _, rfl⟩ rfl rfl ?_
    refine xald 43 ⟨u279, _, rfl⟩ rfl rfl ?_
    refine xgetI 46 hH ⟨u279, _, rfl⟩ rfl rfl (fun z43 h43 => ?_)
    refine xcmp_ge 49 ⟨u279, _, rfl⟩ rfl (fun c46 => ?_) (fun c46 => ?_)
    · omega
    · refine xald 50 ⟨u279, _, rfl⟩ rfl rfl ?_
      refine xald 51 ⟨u279, _, rfl⟩ rfl rfl ?_
      refine xgetR 54 72 hH ⟨u279, _, rfl⟩ rfl rfl ?_
      refine xild2 56 ⟨u279, _, rfl⟩ rfl rfl ?_
      refine xiald 57 (wt).toInt.toNat hH ⟨u279, _, rfl⟩ rfl (by decide) rfl (by omega) (by omega) (fun z56 h56 => ?_)
      refine xald 58 ⟨u279, _, rfl⟩ rfl rfl ?_
      refine xgetR 61 73 hH ⟨u279, _, rfl⟩ rfl rfl ?_
      refine xild2 63 ⟨u279, _, rfl⟩ rfl rfl ?_
      refine xiald 64 (wt).toInt.toNat hH ⟨u279, _, rfl⟩ rfl (by decide) rfl (by omega) (by omega) (fun z63 h63 => ?_)
      refine xald 65 ⟨u279, _, rfl⟩ rfl rfl ?_
      refine xgetR 68 74 hH ⟨u279, _, rfl⟩ rfl rfl ?_
      refine xild2 70 ⟨u279, _, rfl⟩ rfl rfl ?_
      refine xiald 71 (wt).toInt.toNat hH ⟨u279, _, rfl⟩ rfl (by decide) rfl (by omega) (by omega) (fun z70 h70 => ?_)
      refine xcall 74 [.ref 66, .int _, .int _, .int _] [] hH ⟨u279, _, rfl⟩ rfl rfl rfl rfl rfl (k_tkR hH hP hS.1 (x := x) (y := y) (z := z) (by rw [h56, show wt.toInt.toNat = t by omega]; exact o1) (by rw [h63, show wt.toInt.toNat = t by omega]; exact o2) (by rw [h70, show wt.toInt.toNat = t by omega]; exact o3) q7 (fun hp71 hH71 P71 F71 C71 => ⟨_, rfl, ?_⟩))
      have S71 := rfS_67 hS F71 C71
      refine xinc 77 (1) ⟨u279, _, rfl⟩ rfl rfl rfl (by decide) (by omega) (by omega) (fun z74 h74 => ?_)
      refine xgoto ⟨u279, _, rfl⟩ ?_
      exact ih (t + 1) (k + 1) _ _ _ _ hp71 (by omega) (by omega) q6 hH71 P71 (hF.trans F71) (by rw [q8 rfl]; exact S71)
theorem l279b {d V n x0 y0 : Nat} {h : Nat → sR} {sv : Option sR} {T : sT} {ty : Nat → Int} {hp0 : amH} {R : xQ} {a b : Int32} (hT : sOk V T) (hL0 : rlN hp0 T 225) (hK0 : ∀ u v, u < 15 → v < 15 → rN hp0 68 (4 + 15 * u + v) = T u v) (ha : a.toInt = (x0 : Int)) (hb : b.toInt = (y0 : Int)) (hx0 : x0 < V) (hy0 : y0 < V)
    (hR : ∀ (w : Int32) hp1, bHk 84 bTT hp1 → P0 hp1 → bFr [(67, 999)] hp0 hp1 → rfS hp1 (V, pG (sw x0 y0) T 225, ty) n h sv → w.toInt + ((hC (sw x0 y0) T 225 : Nat) : Int) = (((trL T 225).length : Nat) : Int) → R (.inl (some (.int w))) hp1) :
    ∀ (jj t m : Nat) (w wt : Int32) (v5 v6 v7 : Option Value) (hp : amH), wt.toInt = (t : Int) → t + jj = (trL T 225).length → (trL T m).length = t → bHk 84 bTT hp → P0 hp → bFr [(67, 999)] hp0 hp → rfS hp (V, pG (sw x0 y0) T m, ty) n h sv → w.toInt + ((hC (sw x0 y0) T m : Nat) : Int) = (t : Int) → 0 ≤ w.toInt → xV (d + 4) am_m279 83 [some (.ref 66), some (.int a), some (.int b), some (.int w), some (.int wt), v5, v6, v7] [] hp R := by
  have l35 := trL_35 hT 225
  have hV := hT.2.1
  have hs := sPm_sw (V := V) hx0 hy0
  intro jj
  induction jj with
  | zero =>
    intro t m w wt v5 v6 v7 hp hwt hj hm hH hP hF hS hw hge
    have L1 : rN hp 66 12 = (((trL T 225).length : Nat) : Int) := (r_fr hF rfl).trans hL0.1
    have eT : pG (sw x0 y0) T m = pG (sw x0 y0) T 225 := pG_eq (by omega)
    have eC : hC (sw x0 y0) T m = hC (sw x0 y0) T 225 := hC_eq (by omega)
    rw [eT] at hS
    rw [eC] at hw
    refine xild2 85 ⟨u279, _, rfl⟩ rfl rfl ?_
    refine xald 86 ⟨u279, _, rfl⟩ rfl rfl ?_
    refine xgetI 89 hH ⟨u279, _, rfl⟩ rfl rfl (fun z86 h86 => ?_)
    refine xcmp_ge 92 ⟨u279, _, rfl⟩ rfl (fun c89 => ?_) (fun c89 => ?_)
    · refine xild 179 ⟨u279, _, rfl⟩ rfl rfl ?_
      exact xret ⟨u279, _, rfl⟩ rfl (hR _ hp hH hP hF hS (by omega))
    · omega
  | succ jj ih =>
    intro t m w wt v5 v6 v7 hp hwt hj hm hH hP hF hS hw hge
    have hL : rlN hp T 225 := rlN_fr hL0 (r_fr hF rfl) (fun _ => r_fr hF rfl) (fun _ => r_fr hF rfl) (fun _ => r_fr hF rfl) (fun _ => r_fr hF rfl)
    have L1 := hL.1
    obtain ⟨k, u, v, z, q1, q2, q3, q4, q5, -, -, -, q6, q7, q8, q9⟩ := mv_next hT hs (t := t) (by omega) hm
    obtain ⟨o1, o2, o3⟩ := rl_at hT hL (t := t) (by omega) q1 q2 q3
    have bu := hs.1 u (by omega)
    have bv := hs.1 v (by omega)
    have bz := hs.1 z (by omega)
    have nuv : ¬ sw x0 y0 u = sw x0 y0 v := fun k => by have := hs.2.1 _ _ (by omega) (by omega) k; omega
    have nvz : ¬ sw x0 y0 v = sw x0 y0 z := fun k => by have := hs.2.1 _ _ (by omega) (by omega) k; omega
    have nuz : ¬ sw x0 y0 u = sw x0 y0 z := fun k => by have := hs.2.1 _ _ (by omega) (by omega) k; omega
    have swI : ∀ (p r : Int32) (q : Nat), p.toInt = (q : Int) → (r.toInt = if p.toInt = a.toInt then b.toInt else if p.toInt = b.toInt then a.toInt else p.toInt) → r.toInt = ((sw x0 y0 q : Nat) : Int) := fun p r q hp e => by
      rw [e]
      have s := sw_ab (a := x0) (b := y0) (p := q)
      by_cases g : p.toInt = a.toInt
      · rw [if_pos g]; omega
      · rw [if_neg g]
        by_cases g2 : p.toInt = b.toInt
        · rw [if_pos g2]; omega
        · rw [if_neg g2]; omega
    refine xild2 85 ⟨u279, _, rfl⟩ rfl rfl ?_
    refine xald 86 ⟨u279, _, rfl⟩ rfl rfl ?_
    refine xgetI 89 hH ⟨u279, _, rfl⟩ rfl rfl (fun z86 h86 => ?_)
    refine xcmp_ge 92 ⟨u279, _, rfl⟩ rfl (fun c89 => ?_) (fun c89 => ?_)
    · omega
    · refine xald 93 ⟨u279, _, rfl⟩ rfl rfl ?_
      refine xgetR 96 72 hH ⟨u279, _, rfl⟩ rfl rfl ?_
      refine xild2 98 ⟨u279, _, rfl⟩ rfl rfl ?_
      refine xiald 99 (wt).toInt.toNat hH ⟨u279, _, rfl⟩ rfl (by decide) rfl (by omega) (by omega) (fun z98 h98 => ?_)
      refine xild 100 ⟨u279, _, rfl⟩ rfl rfl ?_
      refine xild 101 ⟨u279, _, rfl⟩ rfl rfl ?_
      refine xcallS 104 [.int _, .int _, .int _] [] hH ⟨u279, _, rfl⟩ rfl rfl rfl rfl rfl (k_swapped (fun z101 h101 => ⟨_, rfl, ?_⟩))
      have h101 := swI _ _ u (by rw [h98, show wt.toInt.toNat = t by omega]; exact o1) h101
      refine xist2 106 ⟨u279, _, rfl⟩ rfl rfl ?_
      refine xald 107 ⟨u279, _, rfl⟩ rfl rfl ?_
      refine xgetR 110 73 hH ⟨u279, _, rfl⟩ rfl rfl ?_
      refine xild2 112 ⟨u279, _, rfl⟩ rfl rfl ?_
      refine xiald 113 (wt).toInt.toNat hH ⟨u279, _, rfl⟩ rfl (by decide) rfl (by omega) (by omega) (fun z112 h112 => ?_)
      refine xild 114 ⟨u279, _, rfl⟩ rfl rfl ?_
      refine xild 115 ⟨u279, _, rfl⟩ rfl rfl ?_
      refine xcallS 118 [.int _, .int _, .int _] [] hH ⟨u279, _, rfl⟩ rfl rfl rfl rfl rfl (k_swapped (fun z115 h115 => ⟨_, rfl, ?_⟩))
      have h115 := swI _ _ v (by rw [h112, show wt.toInt.toNat = t by omega]; exact o2) h115
      refine xist2 120 ⟨u279, _, rfl⟩ rfl rfl ?_
      refine xald 121 ⟨u279, _, rfl⟩ rfl rfl ?_
      refine xgetR 124 74 hH ⟨u279, _, rfl⟩ rfl rfl ?_
      refine xild2 126 ⟨u279, _, rfl⟩ rfl rfl ?_
      refine xiald 127 (wt).toInt.toNat hH ⟨u279, _, rfl⟩ rfl (by decide) rfl (by omega) (by omega) (fun z126 h126 => ?_)
      refine xild 128 ⟨u279, _, rfl⟩ rfl rfl ?_
      refine xild 129 ⟨u279, _, rfl⟩ rfl rfl ?_
      refine xcallS 132 [.int _, .int _, .int _] [] hH ⟨u279, _, rfl⟩ rfl rfl rfl rfl rfl (k_swapped (fun z129 h129 => ⟨_, rfl, ?_⟩))
      have h129 := swI _ _ z (by rw [h126, show wt.toInt.toNat = t by omega]; exact o3) h129
      refine xist2 134 ⟨u279, _, rfl⟩ rfl rfl ?_
      refine xald 135 ⟨u279, _, rfl⟩ rfl rfl ?_
      refine xild2 137 ⟨u279, _, rfl⟩ rfl rfl ?_
      refine xild2 139 ⟨u279, _, rfl⟩ rfl rfl ?_
      refine xild2 141 ⟨u279, _, rfl⟩ rfl rfl ?_
      refine xcall 144 [.ref 66, .int _, .int _, .int _] [] hH ⟨u279, _, rfl⟩ rfl rfl rfl rfl rfl (k_ptR hH hP hS.1 (x := sw x0 y0 u) (y := sw x0 y0 v) (z := sw x0 y0 z) h101 h115 h129 bu bv bz nuv nvz nuz q8 (fun hp141 hH141 P141 F141 C141 => ⟨_, rfl, ?_⟩))
      have S141 := rfS_67 hS F141 C141
      refine xild 145 ⟨u279, _, rfl⟩ rfl rfl ?_
      refine xald 146 ⟨u279, _, rfl⟩ rfl rfl ?_
      refine xgetR 149 68 hH141 ⟨u279, _, rfl⟩ rfl rfl ?_
      refine xcst 150 (4) ⟨u279, _, rfl⟩ rfl (by decide) (fun z149 h149 => ?_)
      refine xbip 152 (15) ⟨u279, _, rfl⟩ rfl (by decide) (fun z150 h150 => ?_)
      refine xild2 154 ⟨u279, _, rfl⟩ rfl rfl ?_
      refine xmul 155 (15 * Int32.toInt z101) ⟨u279, _, rfl⟩ rfl (by rw [h150]) (by omega) (by omega) (fun z154 h154 => ?_)
      refine xadd 156 _ ⟨u279, _, rfl⟩ rfl rfl (by omega) (by omega) (fun z155 h155 => ?_)
      refine xild2 158 ⟨u279, _, rfl⟩ rfl rfl ?_
      refine xadd 159 _ ⟨u279, _, rfl⟩ rfl rfl (by omega) (by omega) (fun z158 h158 => ?_)
      refine xiald 160 (z158).toInt.toNat hH141 ⟨u279, _, rfl⟩ rfl (by decide) rfl (by omega) (by omega) (fun z159 h159 => ?_)
      have kk : z159.toInt = T (sw x0 y0 u) (sw x0 y0 v) := by
        rw [h159, show z158.toInt.toNat = 4 + 15 * sw x0 y0 u + sw x0 y0 v by omega, show rN hp141 68 (4 + 15 * sw x0 y0 u + sw x0 y0 v) = rN hp 68 (4 + 15 * sw x0 y0 u + sw x0 y0 v) from r_fr F141 rfl, show rN hp 68 (4 + 15 * sw x0 y0 u + sw x0 y0 v) = rN hp0 68 (4 + 15 * sw x0 y0 u + sw x0 y0 v) from r_fr hF rfl]
        exact hK0 _ _ (by omega) (by omega)
      refine xild2 162 ⟨u279, _, rfl⟩ rfl rfl ?_
      refine xcmp_ne 165 ⟨u279, _, rfl⟩ rfl (fun c162 => ?_) (fun c162 => ?_)
      · refine xcst 170 (1) ⟨u279, _, rfl⟩ rfl (by decide) (fun z169 h169 => ?_)
        refine xadd 171 _ ⟨u279, _, rfl⟩ rfl rfl (by omega) (by omega) (fun z170 h170 => ?_)
        refine xist 172 ⟨u279, _, rfl⟩ rfl rfl ?_
        refine xinc 175 (1) ⟨u279, _, rfl⟩ rfl rfl rfl (by decide) (by omega) (by omega) (fun z172 h172 => ?_)
        refine xgoto ⟨u279, _, rfl⟩ ?_
        have hc : hC (sw x0 y0) T (k + 1) = hC (sw x0 y0) T m + 0 := by
          rw [q9, if_neg (by omega)]
        exact ih (t + 1) (k + 1) _ _ _ _ _ hp141 (by omega) (by omega) q6 hH141 P141 (hF.trans F141) (by rw [q7]; exact S141) (by rw [hc]; omega) (by omega)
      · refine xcst 166 (0) ⟨u279, _, rfl⟩ rfl (by decide) (fun z165 h165 => ?_)
        refine xgoto ⟨u279, _, rfl⟩ ?_
        refine xadd 171 _ ⟨u279, _, rfl⟩ rfl rfl (by omega) (by omega) (fun z170 h170 => ?_)
        refine xist 172 ⟨u279, _, rfl⟩ rfl rfl ?_
        refine xinc 175 (1) ⟨u279, _, rfl⟩ rfl rfl rfl (by decide) (by omega) (by omega) (fun z172 h172 => ?_)
        refine xgoto ⟨u279, _, rfl⟩ ?_
        have hc : hC (sw x0 y0) T (k + 1) = hC (sw x0 y0) T m + 1 := by
          rw [q9, if_pos (by omega)]
        exact ih (t + 1) (k + 1) _ _ _ _ _ hp141 (by omega) (by omega) q6 hH141 P141 (hF.trans F141) (by rw [q7]; exact S141) (by rw [hc]; omega) (by omega)
theorem k_279E {d V n : Nat} {h : Nat → sR} {sv : Option sR} {T : sT} {ty : Nat → Int} {hp : amH} {R : xQ} {a b : Int32} (hH : bHk 84 bTT hp) (hP : P0 hp) (hS : rfS hp (V, T, ty) n h sv)
    (hR : ∀ (z : Int32) hp1, bHk 84 bTT hp1 → P0 hp1 → bFr wM hp hp1 → rN hp1 66 7 = gTwo V a.toInt b.toInt → ((¬ gTwo V a.toInt b.toInt = 0 ∧ rfS hp1 (V, T, ty) n h sv) ∨ (gTwo V a.toInt b.toInt = 0 ∧ rfS hp1 (V, pG (sw a.toInt.toNat b.toInt.toNat) T 225, ty) (pM n + 1) (pH n h (V, T, ty)) sv ∧ z.toInt + ((hC (sw a.toInt.toNat b.toInt.toNat) T 225 : Nat) : Int) = (((trL T 225).length : Nat) : Int))) → R (.inl (some (.int z))) hp1) : xK (d + 4) 279 [.ref 66, .int a, .int b] hp R := by
  have hT : sOk V T := hS.1.2.1
  have hV : V ≤ 15 := hT.2.1
  have hV0 : rN hp 67 0 = (V : Int) := hS.1.1
  refine xin (M := am_m279) rfl rfl rfl ?_
  refine xald 1 ⟨u279, _, rfl⟩ rfl rfl ?_
  refine xild 2 ⟨u279, _, rfl⟩ rfl rfl ?_
  refine xild 3 ⟨u279, _, rfl⟩ rfl rfl ?_
  refine xcall 6 [.ref 66, .int _, .int _] [] hH ⟨u279, _, rfl⟩ rfl rfl rfl rfl rfl (k_gp2 hH hV0 hV (fun z3 hp3 hH3 F3 t3 o3 => ⟨_, rfl, ?_⟩))
  have S3 := rfS_W hS F3 (fun _ => rfl) rfl rfl (fun _ => rfl) (fun _ => rfl)
  have P3 : P0 hp3 := P0_W (W := [(66, 7)]) (by decide) F3 hP
  refine xif_eq 9 ⟨u279, _, rfl⟩ rfl (fun c6 => ?_) (fun c6 => ?_)
  · have g2 : gTwo V a.toInt b.toInt = 0 := by omega
    have k2 := gTwo_0.mp g2
    refine xald 12 ⟨u279, _, rfl⟩ rfl rfl ?_
    refine xcall 15 [.ref 66] [] hH3 ⟨u279, _, rfl⟩ rfl rfl rfl rfl rfl (k_rmS hH3 P3 S3 (fun hp12 hH12 P12 F12 S12 => ⟨_, rfl, ?_⟩))
    refine xald 16 ⟨u279, _, rfl⟩ rfl rfl ?_
    refine xcall 19 [.ref 66] [] hH12 ⟨u279, _, rfl⟩ rfl rfl rfl rfl rfl (k_rlst hH12 (V := V) (T := T) (rowOk_rd S12.1) (fun hp16 hH16 F16 B16 L16 => ⟨_, rfl, ?_⟩))
    have S16 := rfS_W S12 F16 (fun _ => rfl) rfl rfl (fun _ => rfl) (fun _ => rfl)
    have P16 : P0 hp16 := P0_W (W := bLT) (by decide) F16 P12
    refine xcst 20 (0) ⟨u279, _, rfl⟩ rfl (by decide) (fun z19 h19 => ?_)
    refine xist 21 ⟨u279, _, rfl⟩ rfl rfl ?_
    refine xald 22 ⟨u279, _, rfl⟩ rfl rfl ?_
    refine xgetR 25 67 hH16 ⟨u279, _, rfl⟩ rfl rfl ?_
    refine xcst 26 (4) ⟨u279, _, rfl⟩ rfl (by decide) (fun z25 h25 => ?_)
    refine xald 27 ⟨u279, _, rfl⟩ rfl rfl ?_
    refine xgetR 30 68 hH16 ⟨u279, _, rfl⟩ rfl rfl ?_
    refine xcst 31 (4) ⟨u279, _, rfl⟩ rfl (by decide) (fun z30 h30 => ?_)
    refine xsip 34 (225) ⟨u279, _, rfl⟩ rfl (by decide) (fun z31 h31 => ?_)
    refine xcallS 37 [.ref 67, .int _, .ref 68, .int _, .int _] [] hH16 ⟨u279, _, rfl⟩ rfl rfl rfl rfl rfl (k_copy 4 4 225 hH16 (by decide) (by decide) (by decide) rfl rfl (by omega) (by omega) (by omega) (by omega) (by omega) (by decide) (fun hp34 hH34 F34 E34 => ⟨_, rfl, ?_⟩))
    have S34 := rfS_W S16 F34 (fun _ => rfl) rfl rfl (fun _ => rfl) (fun _ => rfl)
    have P34 : P0 hp34 := P0_68 F34 P16
    have L34 : rlN hp34 T 225 := rlN_fr L16 (r_fr F34 rfl) (fun _ => r_fr F34 rfl) (fun _ => r_fr F34 rfl) (fun _ => r_fr F34 rfl) (fun _ => r_fr F34 rfl)
    have K34 : ∀ u v, u < 15 → v < 15 → rN hp34 68 (4 + 15 * u + v) = T u v := fun u v hu hv => by
      rw [E34 _ (by omega), if_pos (by omega), show 4 + (4 + 15 * u + v - 4) = 4 + 15 * u + v by omega]
      exact S16.1.2.2.1 u v hu hv
    refine xcst 38 (0) ⟨u279, _, rfl⟩ rfl (by decide) (fun z37 h37 => ?_)
    refine xist2 40 ⟨u279, _, rfl⟩ rfl rfl ?_
    refine xpad 3 ?_
    refine l279a (V := V) (T := T) (ty := ty) (n := pM n + 1) (h := pH n h (V, T, ty)) (sv := sv) hT L34 (fun wt1 v5 v6 v7 hp1 hH1 P1 F1 S1 => ?_) (trL T 225).length 0 0 _ _ _ _ hp34 (by omega) (by omega) rfl hH34 P34 (bFr.refl _ _) S34
    refine xcst 81 (0) ⟨u279, _, rfl⟩ rfl (by decide) (fun z80 h80 => ?_)
    refine xist2 83 ⟨u279, _, rfl⟩ rfl rfl ?_
    exact l279b (x0 := a.toInt.toNat) (y0 := b.toInt.toNat) hT (rlN_fr L34 (r_fr F1 rfl) (fun _ => r_fr F1 rfl) (fun _ => r_fr F1 rfl) (fun _ => r_fr F1 rfl) (fun _ => r_fr F1 rfl)) (fun u v hu hv => (r_fr F1 rfl).trans (K34 u v hu hv)) (by omega) (by omega) (by omega) (by omega) (fun w hp2 q1 q2 q3 q4 q5 => hR w hp2 q1 q2 ((((((bFr_sub F3 (by decide)).trans (bFr_sub F12 (by decide))).trans (bFr_sub F16 (by decide))).trans (bFr_sub F34 (by decide))).trans (bFr_sub F1 (by decide))).trans (bFr_sub q3 (by decide))) (by rw [show rN hp2 66 7 = rN hp1 66 7 from r_fr q3 rfl, show rN hp1 66 7 = rN hp34 66 7 from r_fr F1 rfl, show rN hp34 66 7 = rN hp16 66 7 from r_fr F34 rfl, show rN hp16 66 7 = rN hp12 66 7 from r_fr F16 rfl, show rN hp12 66 7 = rN hp3 66 7 from r_fr F12 rfl]; exact t3) (Or.inr ⟨g2, q4, q5⟩)) (trL T 225).length 0 0 _ _ _ _ _ hp1 (by omega) (by omega) rfl hH1 P1 (bFr.refl _ _) S1 (by rw [h19]; rfl) (by omega)
  · refine xcst 10 (0) ⟨u279, _, rfl⟩ rfl (by decide) (fun z9 h9 => ?_)
    exact xret ⟨u279, _, rfl⟩ rfl (hR _ hp3 hH3 P3 (bFr_sub F3 (by decide)) t3 (Or.inl ⟨by omega, S3⟩))
end
/-! ##### 19.m.074.37d ##### -/
section
/-! ===== turns within the points: the class ===== -/
theorem x_sg {x y : Int32} (hy : 0 ≤ y.toInt) : (x ^^^ y).toInt < 0 ↔ x.toInt < 0 := by
  have e1 : (x ^^^ y).toInt = (x.toBitVec ^^^ y.toBitVec).toInt := rfl
  have e2 : x.toInt = x.toBitVec.toInt := rfl
  have e3 : y.toInt = y.toBitVec.toInt := rfl
  have m1 := BitVec.msb_eq_toInt (x := x.toBitVec ^^^ y.toBitVec)
  have m2 := BitVec.msb_eq_toInt (x := x.toBitVec)
  have m3 := BitVec.msb_eq_toInt (x := y.toBitVec)
  rw [← e3, decide_eq_false (by omega)] at m3
  rw [BitVec.msb_xor, m3, Bool.xor_false, m2, decide_eq_decide] at m1
  rw [e1, e2]
  exact m1.symm
theorem u345 : bUp 0 am_m345.1 = true := by decide +kernel
theorem u5 : bUp 0 am_m5.1 = true := by decide +kernel
theorem tm_sg (k p : Int) : (0 ≤ k → 0 ≤ k.tmod p) ∧ (k < 0 → k.tmod p ≤ 0) := by
  constructor
  · exact fun h => Int.tmod_nonneg p h
  · intro h
    have := Int.tmod_nonneg p (a := -k) (by omega)
    rw [Int.neg_tmod] at this
    omega
theorem k_flm {d : Nat} {hp : amH} {R : xQ} {a b : Int32} (hb : 0 < b.toInt) (hb2 : b.toInt ≤ 15) (hR : ∀ z : Int32, z.toInt = bv a.toInt b.toInt → R (.inl (some (.int z))) hp) : xK d 345 [.int a, .int b] hp R := by
  have q := bv_in (k := a.toInt) hb
  have s := tm_sg a.toInt b.toInt
  have sg := x_sg (x := a) (y := b) (by omega)
  refine xin (M := am_m345) rfl rfl rfl ?_
  refine xild 1 ⟨u345, _, rfl⟩ rfl rfl ?_
  refine xild 2 ⟨u345, _, rfl⟩ rfl rfl ?_
  refine xremG 3 ⟨u345, _, rfl⟩ rfl hb (fun z2 h2 => ?_)
  refine xist 4 ⟨u345, _, rfl⟩ rfl rfl ?_
  refine xild 5 ⟨u345, _, rfl⟩ rfl rfl ?_
  refine xild 6 ⟨u345, _, rfl⟩ rfl rfl ?_
  refine xxor 7 ⟨u345, _, rfl⟩ rfl ?_
  refine xif_ge 10 ⟨u345, _, rfl⟩ rfl (fun c7 => ?_) (fun c7 => ?_)
  · refine xild 19 ⟨u345, _, rfl⟩ rfl rfl ?_
    exact xret ⟨u345, _, rfl⟩ rfl (hR _ (by unfold bv; rw [if_neg (by omega)]; exact h2))
  · refine xild 11 ⟨u345, _, rfl⟩ rfl rfl ?_
    refine xif_eq 14 ⟨u345, _, rfl⟩ rfl (fun c11 => ?_) (fun c11 => ?_)
    · refine xild 19 ⟨u345, _, rfl⟩ rfl rfl ?_
      exact xret ⟨u345, _, rfl⟩ rfl (hR _ (by unfold bv; rw [if_neg (by omega)]; exact h2))
    · refine xild 15 ⟨u345, _, rfl⟩ rfl rfl ?_
      refine xild 16 ⟨u345, _, rfl⟩ rfl rfl ?_
      have q2 : -15 ≤ z2.toInt := by unfold bv at q; split at q <;> omega
      refine xadd 17 _ ⟨u345, _, rfl⟩ rfl rfl (by omega) (by omega) (fun z16 h16 => ?_)
      exact xret ⟨u345, _, rfl⟩ rfl (hR _ (by unfold bv; rw [if_pos (by omega)]; omega))
theorem k_twn {d V : Nat} {hp : amH} {R : xQ} {k : Int32} (hH : bHk 84 bTT hp) (hV : rN hp 3 0 = (V : Int)) (h3 : 3 ≤ V) (h15 : V ≤ 15) (hR : ∀ z : Int32, z.toInt = bv k.toInt (V : Int) → R (.inl (some (.int z))) hp) : xK (d + 1) 5 [.ref 3, .int k] hp R := by
  refine xin (M := am_m5) rfl rfl rfl ?_
  refine xald 1 ⟨u5, _, rfl⟩ rfl rfl ?_
  refine xgetC 4 hH ⟨u5, _, rfl⟩ rfl (by decide) (by decide) rfl rfl (by decide) (fun z1 h1 => ?_)
  refine xcst 5 (1) ⟨u5, _, rfl⟩ rfl (by decide) (fun z4 h4 => ?_)
  refine xcmp_ge 8 ⟨u5, _, rfl⟩ rfl (fun c5 => ?_) (fun c5 => ?_)
  · refine xild 13 ⟨u5, _, rfl⟩ rfl rfl ?_
    refine xald 14 ⟨u5, _, rfl⟩ rfl rfl ?_
    refine xgetC 17 hH ⟨u5, _, rfl⟩ rfl (by decide) (by decide) rfl rfl (by decide) (fun z14 h14 => ?_)
    refine xcallS 20 [.int _, .int _] [] hH ⟨u5, _, rfl⟩ rfl rfl rfl rfl rfl (k_flm (by omega) (by omega) (fun z17 h17 => ⟨_, rfl, ?_⟩))
    exact xret ⟨u5, _, rfl⟩ rfl (hR _ (by rw [h17, h14, hV]))
  · omega
end
