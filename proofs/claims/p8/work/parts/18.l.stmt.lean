/-! ===== ways by hand: points read, statements ===== -/
def wTK : List (Nat × Nat) := [(66, 24), (66, 25), (66, 26), (66, 27), (66, 28), (66, 29), (81, 999)]
theorem PA_e {hp hp1 : amH} (h21 : rN hp1 66 21 = rN hp 66 21) (h26 : rN hp1 66 26 = rN hp 66 26) (h27 : rN hp1 66 27 = rN hp 66 27) (h : PA hp) : PA hp1 := by
  obtain ⟨a, b, c, d⟩ := h
  exact ⟨by omega, by omega, by omega, by omega⟩
theorem PA_fa {hp hp1 : amH} (hF : bFr wFa hp hp1) (h : PA hp) : PA hp1 := PA_e (r_fr hF rfl) (r_fr hF rfl) (r_fr hF rfl) h
/-- what comes of reading a point -/
def TPt (hp hp1 : amH) (t : Nat) (mn mx z : Int) : Prop := bFr wTK hp hp1 ∧ PA hp1 ∧ rN hp 66 26 ≤ rN hp1 66 26 ∧ (z = 0 ∨ (z = 1 ∧ mn ≤ rN hp1 81 t ∧ rN hp1 81 t ≤ mx ∧ ∀ k, k < t → rN hp1 81 k = rN hp 81 k ∧ ¬ rN hp1 81 k = rN hp1 81 t))
theorem l246 {d : Nat} {hp : amH} {R : xQ} {t mn mx : Int32} (hH : bHk 84 bTT hp) (hA : PA hp) (t0 : 0 ≤ t.toInt) (t2 : t.toInt ≤ 2) (v1 : mn.toInt ≤ rN hp 66 28) (v2 : rN hp 66 28 ≤ mx.toInt) (hR : ∀ (z : Int32) hp1, bHk 84 bTT hp1 → TPt hp hp1 t.toInt.toNat mn.toInt mx.toInt z.toInt → R (.inl (some (.int z))) hp1) :
    ∀ (jj : Nat) (k : Int32), k.toInt + (jj : Int) = 3 → 0 ≤ k.toInt → (∀ i, i < k.toInt.toNat → ¬ rN hp 81 i = rN hp 66 28) → xV (d + 2) am_m246 43 [some (.ref 66), some (.int t), some (.int mn), some (.int mx), some (.int k)] [] hp R := by
  obtain ⟨p1, p2, p3, p4⟩ := id hA
  intro jj
  induction jj using Nat.strongRecOn with
  | ind jj ih =>
    intro k hjj k0 hne
    refine xild2 45 ⟨u246, _, rfl⟩ rfl rfl ?_
    refine xild 46 ⟨u246, _, rfl⟩ rfl rfl ?_
    refine xcmp_ge 49 ⟨u246, _, rfl⟩ rfl (fun c46 => ?_) (fun c46 => ?_)
    · refine xald 76 ⟨u246, _, rfl⟩ rfl rfl ?_
      refine xgetR 79 81 hH ⟨u246, _, rfl⟩ rfl rfl ?_
      refine xild 80 ⟨u246, _, rfl⟩ rfl rfl ?_
      refine xald 81 ⟨u246, _, rfl⟩ rfl rfl ?_
      refine xgetI 84 hH ⟨u246, _, rfl⟩ rfl rfl (fun z81 h81 => ?_)
      have bmn := aMin z81
      have bmx := aMax z81
      refine xiast 85 t.toInt.toNat hH ⟨u246, _, rfl⟩ rfl (by decide) rfl (by omega) (by omega) (by omega) (by omega) (fun hp84 hH84 U84 => ?_)
      have n84_26 : rN hp84 66 26 = rN hp 66 26 := rU_ne U84 (by omega)
      have n84_21 : rN hp84 66 21 = rN hp 66 21 := rU_ne U84 (by omega)
      refine xald 86 ⟨u246, _, rfl⟩ rfl rfl ?_
      refine xcall 89 [.ref 66] [] hH84 ⟨u246, _, rfl⟩ rfl rfl rfl rfl rfl (k_adv hH84 (by omega) (fun hp86 hH86 V86 => ⟨_, rfl, ?_⟩))
      refine xcst 90 (1) ⟨u246, _, rfl⟩ rfl (by decide) (fun z89 h89 => ?_)
      obtain ⟨v1, v2, v3, v4⟩ := V86
      refine xretB ⟨u246, _, rfl⟩ rfl (by omega) (hR _ hp86 hH86 ⟨(rU_fr U84 (bIn_all (by decide) _)).trans (bFr_sub v1 (by decide)), v2, by omega, Or.inr ⟨by omega, ?_, ?_, fun i hi => ?_⟩⟩)
      · rw [show rN hp86 81 t.toInt.toNat = rN hp84 81 t.toInt.toNat from r_fr v1 rfl, U84.1]; omega
      · rw [show rN hp86 81 t.toInt.toNat = rN hp84 81 t.toInt.toNat from r_fr v1 rfl, U84.1]; omega
      · have e1 : rN hp86 81 i = rN hp 81 i := (r_fr v1 rfl).trans (rU_ne U84 (by omega))
        have e2 : rN hp86 81 t.toInt.toNat = z81.toInt := (r_fr v1 rfl).trans U84.1
        refine ⟨e1, fun z => hne i (by omega) ?_⟩
        omega
    · refine xald 50 ⟨u246, _, rfl⟩ rfl rfl ?_
      refine xgetR 53 81 hH ⟨u246, _, rfl⟩ rfl rfl ?_
      refine xild2 55 ⟨u246, _, rfl⟩ rfl rfl ?_
      refine xiald 56 k.toInt.toNat hH ⟨u246, _, rfl⟩ rfl (by decide) rfl (by omega) (by omega) (fun z55 h55 => ?_)
      refine xald 57 ⟨u246, _, rfl⟩ rfl rfl ?_
      refine xgetI 60 hH ⟨u246, _, rfl⟩ rfl rfl (fun z57 h57 => ?_)
      refine xcmp_ne 63 ⟨u246, _, rfl⟩ rfl (fun c60 => ?_) (fun c60 => ?_)
      · refine xinc 72 (1) ⟨u246, _, rfl⟩ rfl rfl rfl (by decide) (by omega) (by omega) (fun z69 h69 => ?_)
        refine xgoto ⟨u246, _, rfl⟩ ?_
        exact ih (jj - 1) (by omega) _ (by omega) (by omega) (fun i hi => by
          by_cases e : i = k.toInt.toNat
          · rw [e]; omega
          · exact hne i (by omega))
      · refine xald 64 ⟨u246, _, rfl⟩ rfl rfl ?_
        refine xcst 65 (2) ⟨u246, _, rfl⟩ rfl (by decide) (fun z64 h64 => ?_)
        refine xcall 68 [.ref 66, .int _] [] hH ⟨u246, _, rfl⟩ rfl rfl rfl rfl rfl (k_fa hH (fun z65 hp65 h65 hH65 F65 => ⟨_, rfl, ?_⟩))
        exact xretB ⟨u246, _, rfl⟩ rfl (by omega) (hR _ hp65 hH65 ⟨bFr_sub F65 (by decide), PA_fa F65 hA, Int.le_of_eq (r_fr F65 rfl).symm, Or.inl h65⟩)
theorem k_tp {d : Nat} {hp : amH} {R : xQ} {t mn mx : Int32} (hH : bHk 84 bTT hp) (hA : PA hp) (t0 : 0 ≤ t.toInt) (t2 : t.toInt ≤ 2) (hR : ∀ (z : Int32) hp1, bHk 84 bTT hp1 → TPt hp hp1 t.toInt.toNat mn.toInt mx.toInt z.toInt → R (.inl (some (.int z))) hp1) : xK (d + 2) 246 [.ref 66, .int t, .int mn, .int mx] hp R := by
  refine xin (M := am_m246) rfl rfl rfl ?_
  refine xald 1 ⟨u246, _, rfl⟩ rfl rfl ?_
  refine xgetI 4 hH ⟨u246, _, rfl⟩ rfl rfl (fun z1 h1 => ?_)
  refine xcst 5 (2) ⟨u246, _, rfl⟩ rfl (by decide) (fun z4 h4 => ?_)
  refine xcmp_ne 8 ⟨u246, _, rfl⟩ rfl (fun c5 => ?_) (fun c5 => ?_)
  · refine xald 17 ⟨u246, _, rfl⟩ rfl rfl ?_
    refine xcst 18 (1) ⟨u246, _, rfl⟩ rfl (by decide) (fun z17 h17 => ?_)
    refine xcall 21 [.ref 66, .int _] [] hH ⟨u246, _, rfl⟩ rfl rfl rfl rfl rfl (k_fa hH (fun z18 hp18 h18 hH18 F18 => ⟨_, rfl, ?_⟩))
    exact xretB ⟨u246, _, rfl⟩ rfl (by omega) (hR _ hp18 hH18 ⟨bFr_sub F18 (by decide), PA_fa F18 hA, Int.le_of_eq (r_fr F18 rfl).symm, Or.inl h18⟩)
  · refine xald 9 ⟨u246, _, rfl⟩ rfl rfl ?_
    refine xcall 12 [.ref 66] [] hH ⟨u246, _, rfl⟩ rfl rfl rfl rfl rfl (k_tl hH hA (fun z9 h9 => ⟨_, rfl, ?_⟩))
    refine xcst 13 (2) ⟨u246, _, rfl⟩ rfl (by decide) (fun z12 h12 => ?_)
    refine xcmp_le 16 ⟨u246, _, rfl⟩ rfl (fun c13 => ?_) (fun c13 => ?_)
    · refine xald 23 ⟨u246, _, rfl⟩ rfl rfl ?_
      refine xgetI 26 hH ⟨u246, _, rfl⟩ rfl rfl (fun z23 h23 => ?_)
      refine xild 27 ⟨u246, _, rfl⟩ rfl rfl ?_
      refine xild 28 ⟨u246, _, rfl⟩ rfl rfl ?_
      refine xcallS 31 [.int _, .int _, .int _] [] hH ⟨u246, _, rfl⟩ rfl rfl rfl rfl rfl (k_inr (fun z28 h28 => ⟨_, rfl, ?_⟩))
      refine xif_ne 34 ⟨u246, _, rfl⟩ rfl (fun c31 => ?_) (fun c31 => ?_)
      · refine xcst 41 (0) ⟨u246, _, rfl⟩ rfl (by decide) (fun z40 h40 => ?_)
        refine xist2 43 ⟨u246, _, rfl⟩ rfl rfl ?_
        exact l246 hH hA t0 t2 (by omega) (by omega) hR 3 _ (by omega) (by omega) (fun i hi => by omega)
      · refine xald 35 ⟨u246, _, rfl⟩ rfl rfl ?_
        refine xcst 36 (2) ⟨u246, _, rfl⟩ rfl (by decide) (fun z35 h35 => ?_)
        refine xcall 39 [.ref 66, .int _] [] hH ⟨u246, _, rfl⟩ rfl rfl rfl rfl rfl (k_fa hH (fun z36 hp36 h36 hH36 F36 => ⟨_, rfl, ?_⟩))
        exact xretB ⟨u246, _, rfl⟩ rfl (by omega) (hR _ hp36 hH36 ⟨bFr_sub F36 (by decide), PA_fa F36 hA, Int.le_of_eq (r_fr F36 rfl).symm, Or.inl h36⟩)
    · refine xald 17 ⟨u246, _, rfl⟩ rfl rfl ?_
      refine xcst 18 (1) ⟨u246, _, rfl⟩ rfl (by decide) (fun z17 h17 => ?_)
      refine xcall 21 [.ref 66, .int _] [] hH ⟨u246, _, rfl⟩ rfl rfl rfl rfl rfl (k_fa hH (fun z18 hp18 h18 hH18 F18 => ⟨_, rfl, ?_⟩))
      exact xretB ⟨u246, _, rfl⟩ rfl (by omega) (hR _ hp18 hH18 ⟨bFr_sub F18 (by decide), PA_fa F18 hA, Int.le_of_eq (r_fr F18 rfl).symm, Or.inl h18⟩)
