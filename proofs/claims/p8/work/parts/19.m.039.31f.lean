/-! ===== the reference keeps what was ===== -/
theorem rowOk_eq {r r1 : Nat → Int} {q : sR} (h : rowOk r q) (e : ∀ i, i < 229 → r1 i = r i) : rowOk r1 q := by
  obtain ⟨h1, h2, h3, h4, h5⟩ := h
  exact ⟨(e 0 (by decide)).trans h1, h2, fun u v hu hv => (e _ (by omega)).trans (h3 u v hu hv), h4, fun i hi => (e _ (by omega)).trans (h5 i hi)⟩
def hyV (hp : amH) (sv : Option sR) : Prop := match sv with
  | none => rN hp 66 6 = 0
  | some q => rN hp 66 6 = 1 ∧ rowOk (rN hp 70) q
def hyR (hp : amH) (n : Nat) (h : Nat → sR) (sv : Option sR) : Prop := rN hp 66 5 = (n : Int) ∧ n ≤ 10 ∧ (∀ k, k < n → rowOk (fun i => rN hp 71 (229 * k + i)) (h k)) ∧ hyV hp sv
theorem hyV_fr {hp hp1 : amH} {sv : Option sR} (h : hyV hp sv) (e : rN hp1 66 6 = rN hp 66 6) (F : ∀ i, i < 229 → rN hp1 70 i = rN hp 70 i) : hyV hp1 sv := by
  cases sv with
  | none => exact e.trans h
  | some q => exact ⟨e.trans h.1, rowOk_eq h.2 F⟩
theorem hyR_fr {hp hp1 : amH} {n : Nat} {h : Nat → sR} {sv : Option sR} (hY : hyR hp n h sv) (e5 : rN hp1 66 5 = rN hp 66 5) (e6 : rN hp1 66 6 = rN hp 66 6) (F : ∀ i, rN hp1 70 i = rN hp 70 i) (F1 : ∀ i, rN hp1 71 i = rN hp 71 i) : hyR hp1 n h sv :=
  ⟨e5.trans hY.1, hY.2.1, fun k hk => rowOk_eq (hY.2.2.1 k hk) (fun i _ => F1 _), hyV_fr hY.2.2.2 e6 (fun i _ => F i)⟩
theorem rowOk_V {r : Nat → Int} {q : sR} (h : rowOk r q) : Vf r := by
  obtain ⟨h1, h2, h3, h4, h5⟩ := h
  have a := h2.1
  have b := h2.2.1
  refine ⟨by omega, by omega, fun u v hu hv => ?_⟩
  rcases h2.2.2 u v with g | ⟨c, g1, g2, g3, g4, g5, g6, g7, g8, g9⟩
  · exact Or.inl ((h3 u v hu hv).trans g)
  · exact Or.inr ⟨c, (h3 u v hu hv).trans g1, by omega, by omega, by omega, g5, g6, g7, (h3 v u hv hu).trans g8, (h3 u c hu (by omega)).trans g9⟩
theorem rowOk_rd {hp : amH} {q : sR} (h : rowOk (rN hp 67) q) : rdOk hp q.1 q.2.1 := ⟨h.1, h.2.1, h.2.2.1, h.2.2.2.1⟩
theorem rd_rowOk {hp : amH} {V : Nat} {T : sT} {ty : Nat → Int} (h : rdOk hp V T) (e : ∀ i, i < 3 → rN hp 67 (i + 1) = ty i) : rowOk (rN hp 67) (V, T, ty) := ⟨h.1, h.2.1, h.2.2.1, h.2.2.2, e⟩
theorem k_rmem {d n : Nat} {h : Nat → sR} {sv : Option sR} {q : sR} {hp : amH} {R : xQ} (hH : bHk 84 bTT hp) (hP : P0 hp) (hC : rowOk (rN hp 67) q) (hY : hyR hp n h sv) (hR : ∀ hp1, bHk 84 bTT hp1 → P0 hp1 → bFr wRem hp hp1 → hyR hp1 (pM n + 1) (pH n h q) sv → R (.inl none) hp1) : xK (d + 1) 200 [.ref 66] hp R := by
  refine xin (M := am_m200) rfl rfl rfl ?_
  have j37 : ∀ hp1, bHk 84 bTT hp1 → P0 hp1 → bFr wRem hp hp1 → rN hp1 66 5 = ((pM n : Nat) : Int) → (∀ k, k < pM n → rowOk (fun i => rN hp1 71 (229 * k + i)) (if n = 10 then h (k + 1) else h k)) → xV (d + 1) am_m200 37 [some (.ref 66)] [] hp1 R := by
    intro hp1 hH1 hP1 hF1 h9 hK
    have pm : pM n ≤ 9 := by unfold pM; have := hY.2.1; split <;> omega
    have hb := rb_fld hH1 (f := 5) (lo := 2147483648) (hi := 2147483658) rfl
    obtain ⟨m, hm⟩ : ∃ m : Nat, rN hp1 66 5 = (m : Int) := ⟨(rN hp1 66 5).toNat, by omega⟩
    refine xald 38 ⟨u200, _, rfl⟩ rfl rfl ?_
    refine xgetR 41 67 hH1 ⟨u200, _, rfl⟩ rfl rfl ?_
    refine xcst 42 (0) ⟨u200, _, rfl⟩ rfl (by decide) (fun z41 h41 => ?_)
    refine xald 43 ⟨u200, _, rfl⟩ rfl rfl ?_
    refine xgetR 46 71 hH1 ⟨u200, _, rfl⟩ rfl rfl ?_
    refine xsip 49 (229) ⟨u200, _, rfl⟩ rfl (by decide) (fun z46 h46 => ?_)
    refine xald 50 ⟨u200, _, rfl⟩ rfl rfl ?_
    refine xgetI 53 hH1 ⟨u200, _, rfl⟩ rfl rfl (fun z50 h50 => ?_)
    refine xmul 54 (229 * Int32.toInt z50) ⟨u200, _, rfl⟩ rfl (by rw [h46]) (by omega) (by omega) (fun z53 h53 => ?_)
    refine xsip 57 (229) ⟨u200, _, rfl⟩ rfl (by decide) (fun z54 h54 => ?_)
    refine xcallS 60 [.ref 67, .int _, .ref 71, .int _, .int _] [] hH1 ⟨u200, _, rfl⟩ rfl rfl rfl rfl rfl (k_copy 0 (229 * m) 229 hH1 (by decide) (by decide) (by decide) rfl rfl (by omega) (by omega) (by omega) (by omega) (by omega) (by decide) (fun hp2 hH2 F2 E2 => ⟨_, rfl, ?_⟩))
    refine xald 61 ⟨u200, _, rfl⟩ rfl rfl ?_
    refine xdup 62 ⟨u200, _, rfl⟩ rfl rfl ?_
    have e5 : rN hp2 66 5 = rN hp1 66 5 := r_fr F2 (bIn_ne (by decide))
    refine xgetI 65 hH2 ⟨u200, _, rfl⟩ rfl rfl (fun z62 h62 => ?_)
    refine xcst 66 (1) ⟨u200, _, rfl⟩ rfl (by decide) (fun z65 h65 => ?_)
    refine xadd 67 (m + 1) ⟨u200, _, rfl⟩ rfl (by omega) (by omega) (by omega) (fun z66 h66 => ?_)
    refine xputI 70 hH2 ⟨u200, _, rfl⟩ rfl rfl ⟨rfl, rfl⟩ (by omega) (by omega) (fun hp3 hH3 U3 => ?_)
    have e : ∀ c i, ¬ c = 71 → ¬ (c = 66 ∧ i = 5) → rN hp3 c i = rN hp1 c i := fun c i h1 h2 => (rU_ne U3 h2).trans (r_fr F2 (bIn_ne h1))
    refine xretV ⟨u200, _, rfl⟩ rfl (hR hp3 hH3 ?_ (hF1.trans ((bFr_in F2 (by simp [wRem])).trans (rU_fr U3 rfl))) ?_)
    · refine ⟨Vf_eq (fun i _ => e 67 i (by decide) (by omega)) hP1.1, fun z => Vf_eq (fun i _ => e 70 i (by decide) (by omega)) (hP1.2.1 (by rw [← e 66 6 (by decide) (by omega)]; exact z)), fun k hk hk2 => ?_, fun z => Vf_eq (fun i _ => e 69 i (by decide) (by omega)) (hP1.2.2.2 (by rw [← e 69 0 (by decide) (by omega)]; exact z))⟩
      rw [U3.1] at hk
      by_cases hkm : k = m
      · subst hkm
        refine Vf_eq (r := rN hp1 67) (fun i hi => ?_) hP1.1
        rw [rU_ne U3 (by omega), E2 _ (by omega), if_pos (by omega), show 0 + (229 * k + i - 229 * k) = i by omega]
      · refine Vf_eq (r := fun i => rN hp1 71 (229 * k + i)) (fun i hi => ?_) (hP1.2.2.1 k (by omega) hk2)
        rw [rU_ne U3 (by omega), E2 _ (by omega), if_neg (by omega)]
    · have em : m = pM n := by omega
      refine ⟨by rw [U3.1]; omega, by omega, fun k hk => ?_, hyV_fr hY.2.2.2 ((e 66 6 (by decide) (by omega)).trans (r_fr hF1 rfl)) (fun i _ => (e 70 i (by decide) (by omega)).trans (r_fr hF1 rfl))⟩
      unfold pH
      by_cases hkm : k = pM n
      · rw [if_pos hkm]
        refine rowOk_eq (r := rN hp 67) hC (fun i hi => ?_)
        rw [rU_ne U3 (by omega), E2 _ (by omega), if_pos (by omega), show 0 + (229 * k + i - 229 * m) = i by omega]
        exact r_fr hF1 rfl
      · rw [if_neg hkm]
        refine rowOk_eq (hK k (by omega)) (fun i hi => ?_)
        rw [rU_ne U3 (by omega), E2 _ (by omega), if_neg (by omega)]
  refine xald 1 ⟨u200, _, rfl⟩ rfl rfl ?_
  refine xgetI 4 hH ⟨u200, _, rfl⟩ rfl rfl (fun z1 h1 => ?_)
  have hb := rb_fld hH (f := 5) (lo := 2147483648) (hi := 2147483658) rfl
  refine xbip 6 (10) ⟨u200, _, rfl⟩ rfl (by decide) (fun z4 h4 => ?_)
  refine xcmp_ne 9 ⟨u200, _, rfl⟩ rfl (fun c6 => ?_) (fun c6 => ?_)
  · have en : ¬ n = 10 := by have := hY.1; omega
    have pm : pM n = n := by unfold pM; rw [if_neg en]
    exact j37 hp hH hP (bFr.refl _ _) (by rw [pm]; exact hY.1) (fun k hk => by rw [if_neg en]; exact hY.2.2.1 k (by omega))
  · refine xald 10 ⟨u200, _, rfl⟩ rfl rfl ?_
    refine xgetR 13 71 hH ⟨u200, _, rfl⟩ rfl rfl ?_
    refine xsip 16 (229) ⟨u200, _, rfl⟩ rfl (by decide) (fun z13 h13 => ?_)
    refine xald 17 ⟨u200, _, rfl⟩ rfl rfl ?_
    refine xgetR 20 71 hH ⟨u200, _, rfl⟩ rfl rfl ?_
    refine xcst 21 (0) ⟨u200, _, rfl⟩ rfl (by decide) (fun z20 h20 => ?_)
    refine xsip 24 (2061) ⟨u200, _, rfl⟩ rfl (by decide) (fun z21 h21 => ?_)
    refine xcallS 27 [.ref 71, .int _, .ref 71, .int _, .int _] [] hH ⟨u200, _, rfl⟩ rfl rfl rfl rfl rfl (k_shift hH h13 h20 h21 (fun hp2 hH2 F2 E2 => ⟨_, rfl, ?_⟩))
    refine xald 28 ⟨u200, _, rfl⟩ rfl rfl ?_
    refine xdup 29 ⟨u200, _, rfl⟩ rfl rfl ?_
    have e5 : rN hp2 66 5 = rN hp 66 5 := r_fr F2 (bIn_ne (by decide))
    refine xgetI 32 hH2 ⟨u200, _, rfl⟩ rfl rfl (fun z29 h29 => ?_)
    refine xcst 33 (1) ⟨u200, _, rfl⟩ rfl (by decide) (fun z32 h32 => ?_)
    refine xsub 34 9 ⟨u200, _, rfl⟩ rfl (by omega) (by omega) (by omega) (fun z33 h33 => ?_)
    refine xputI 37 hH2 ⟨u200, _, rfl⟩ rfl rfl ⟨rfl, rfl⟩ (by omega) (by omega) (fun hp3 hH3 U3 => ?_)
    have e : ∀ c i, ¬ c = 71 → ¬ (c = 66 ∧ i = 5) → rN hp3 c i = rN hp c i := fun c i h1 h2 => (rU_ne U3 h2).trans (r_fr F2 (bIn_ne h1))
    have en : n = 10 := by have := hY.1; omega
    have pm : pM n = 9 := by unfold pM; rw [if_pos en]
    refine j37 hp3 hH3 ?_ ((bFr_in F2 (by simp [wRem])).trans (rU_fr U3 rfl)) (by rw [U3.1, pm]; exact h33) (fun k hk => by
      rw [if_pos en]
      refine rowOk_eq (hY.2.2.1 (k + 1) (by omega)) (fun i hi => ?_)
      rw [rU_ne U3 (by omega), E2 _ (by omega), show 229 + (229 * k + i) = 229 * (k + 1) + i by omega])
    refine ⟨Vf_eq (fun i _ => e 67 i (by decide) (by omega)) hP.1, fun z => Vf_eq (fun i _ => e 70 i (by decide) (by omega)) (hP.2.1 (by rw [← e 66 6 (by decide) (by omega)]; exact z)), fun k hk hk2 => ?_, fun z => Vf_eq (fun i _ => e 69 i (by decide) (by omega)) (hP.2.2.2 (by rw [← e 69 0 (by decide) (by omega)]; exact z))⟩
    rw [U3.1, h33] at hk
    refine Vf_eq (r := fun i => rN hp 71 (229 * (k + 1) + i)) (fun i hi => ?_) (hP.2.2.1 (k + 1) (by omega) (by omega))
    rw [rU_ne U3 (by omega), E2 _ (by omega), show 229 + (229 * k + i) = 229 * (k + 1) + i by omega]
theorem P0_dep {hp hp1 : amH} {n : Nat} {m : Int} (U : rU hp hp1 66 5 m) (hn : rN hp 66 5 = (n : Int)) (hm : m ≤ (n : Int)) (hP : P0 hp) : P0 hp1 :=
  ⟨Vf_eq (fun i _ => rU_ne U (by omega)) hP.1, fun z => Vf_eq (fun i _ => rU_ne U (by omega)) (hP.2.1 (by rw [← rU_ne U (c1 := 66) (i1 := 6) (by omega)]; exact z)), fun k hk hk2 => Vf_eq (fun i _ => rU_ne U (by omega)) (hP.2.2.1 k (by rw [U.1] at hk; omega) hk2), fun z => Vf_eq (fun i _ => rU_ne U (by omega)) (hP.2.2.2 (by rw [← rU_ne U (c1 := 69) (i1 := 0) (by omega)]; exact z))⟩
theorem k_339 {d n : Nat} {h : Nat → sR} {sv : Option sR} {hp : amH} {R : xQ} (hH : bHk 84 bTT hp) (hP : P0 hp) (hY : hyR hp n h sv)
    (hR : ∀ (z : Int32) hp1, bHk 84 bTT hp1 → P0 hp1 → bFr wM hp hp1 → ((n = 0 ∧ z.toInt = -1 ∧ bFr [(66, 7)] hp hp1) ∨ (0 < n ∧ z.toInt = ((n - 1 : Nat) : Int) ∧ hyR hp1 (n - 1) h sv ∧ rowOk (rN hp1 67) (h (n - 1)))) → R (.inl (some (.int z))) hp1) : xK (d + 1) 339 [.ref 66] hp R := by
  obtain ⟨y1, y2, y3, y4⟩ := id hY
  have b5 := rb_fld hH (f := 5) (lo := 2147483648) (hi := 2147483658) rfl
  refine xin (M := am_m339) rfl rfl rfl ?_
  refine xald 1 ⟨u339, _, rfl⟩ rfl rfl ?_
  refine xcst 2 (0) ⟨u339, _, rfl⟩ rfl (by decide) (fun z1 h1 => ?_)
  refine xputI 5 hH ⟨u339, _, rfl⟩ rfl rfl ⟨rfl, rfl⟩ (by omega) (by omega) (fun hp2 hH2 U2 => ?_)
  have s2 := U2.1
  have n2_66_5 : rN hp2 (66) 5 = rN hp (66) 5 := rU_ne U2 (by omega)
  refine xald 6 ⟨u339, _, rfl⟩ rfl rfl ?_
  refine xgetI 9 hH2 ⟨u339, _, rfl⟩ rfl rfl (fun z6 h6 => ?_)
  refine xif_ne 12 ⟨u339, _, rfl⟩ rfl (fun c9 => ?_) (fun c9 => ?_)
  · refine xald 15 ⟨u339, _, rfl⟩ rfl rfl ?_
    refine xdup 16 ⟨u339, _, rfl⟩ rfl rfl ?_
    refine xgetI 19 hH2 ⟨u339, _, rfl⟩ rfl rfl (fun z16 h16 => ?_)
    refine xcst 20 (1) ⟨u339, _, rfl⟩ rfl (by decide) (fun z19 h19 => ?_)
    refine xsub 21 _ ⟨u339, _, rfl⟩ rfl rfl (by omega) (by omega) (fun z20 h20 => ?_)
    refine xputI 24 hH2 ⟨u339, _, rfl⟩ rfl rfl ⟨rfl, rfl⟩ (by omega) (by omega) (fun hp21 hH21 U21 => ?_)
    have s21 := U21.1
    refine xald 25 ⟨u339, _, rfl⟩ rfl rfl ?_
    refine xgetR 28 71 hH21 ⟨u339, _, rfl⟩ rfl rfl ?_
    refine xsip 31 (229) ⟨u339, _, rfl⟩ rfl (by decide) (fun z28 h28 => ?_)
    refine xald 32 ⟨u339, _, rfl⟩ rfl rfl ?_
    refine xgetI 35 hH21 ⟨u339, _, rfl⟩ rfl rfl (fun z32 h32 => ?_)
    refine xmul 36 (229 * Int32.toInt z32) ⟨u339, _, rfl⟩ rfl (by rw [h28]) (by omega) (by omega) (fun z35 h35 => ?_)
    refine xald 37 ⟨u339, _, rfl⟩ rfl rfl ?_
    refine xgetR 40 67 hH21 ⟨u339, _, rfl⟩ rfl rfl ?_
    refine xcst 41 (0) ⟨u339, _, rfl⟩ rfl (by decide) (fun z40 h40 => ?_)
    refine xsip 44 (229) ⟨u339, _, rfl⟩ rfl (by decide) (fun z41 h41 => ?_)
    refine xcallS 47 [.ref 71, .int _, .ref 67, .int _, .int _] [] hH21 ⟨u339, _, rfl⟩ rfl rfl rfl rfl rfl (k_copy (229 * (n - 1)) 0 229 hH21 (by decide) (by decide) (by decide) rfl rfl (by omega) (by omega) (by omega) (by omega) (by omega) (by decide) (fun hp44 hH44 F44 E44 => ⟨_, rfl, ?_⟩))
    have r67 : rowOk (rN hp44 67) (h (n - 1)) := rowOk_eq (y3 (n - 1) (by omega)) (fun i hi => by
      rw [E44 i hi, if_pos (by omega), Nat.sub_zero, rU_ne U21 (by omega), rU_ne U2 (by omega)])
    have e5 : rN hp44 66 5 = rN hp21 66 5 := r_fr F44 rfl
    have b21 : bFr [(66, 5), (66, 7)] hp hp21 := (rU_fr U2 (by decide)).trans (rU_fr U21 (by decide))
    have hP44 : P0 hp44 := P0_67 F44 (P0_dep (n := n) U21 (by omega) (by omega) (P0_W (W := [(66, 7)]) (by decide) (rU_fr U2 rfl) hP)) (rowOk_V r67)
    refine xald 48 ⟨u339, _, rfl⟩ rfl rfl ?_
    refine xgetI 51 hH44 ⟨u339, _, rfl⟩ rfl rfl (fun z48 h48 => ?_)
    exact xret ⟨u339, _, rfl⟩ rfl (hR _ hp44 hH44 hP44 ((bFr_sub b21 (by decide)).trans (bFr_sub F44 (by decide))) (Or.inr ⟨by omega, by omega, ⟨by rw [e5, U21.1]; omega, by omega, fun k hk => rowOk_eq (y3 k (by omega)) (fun i hi => by
      rw [show rN hp44 71 (229 * k + i) = rN hp21 71 (229 * k + i) from r_fr F44 rfl]
      exact r_fr b21 rfl), hyV_fr y4 ((r_fr F44 rfl).trans (r_fr b21 rfl)) (fun i _ => (r_fr F44 rfl).trans (r_fr b21 rfl))⟩, r67⟩))
  · refine xcst 13 (-1) ⟨u339, _, rfl⟩ rfl (by decide) (fun z12 h12 => ?_)
    exact xret ⟨u339, _, rfl⟩ rfl (hR _ hp2 hH2 (P0_W (W := [(66, 7)]) (by decide) (rU_fr U2 rfl) hP) (rU_fr U2 (by decide)) (Or.inl ⟨by omega, h12, rU_fr U2 rfl⟩))
