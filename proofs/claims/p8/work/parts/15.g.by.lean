/-! ===== by ===== -/
theorem s234_0 : am_m234.1 = [(0, .iload_n 1, 0, 0), (1, .aload_n 0, 0, 0), (2, .invokevirtual 95, 203, 0), (5, .irem, 0, 0), (6, .istore_n 2, 0, 0), (7, .iload_n 2, 0, 0), (8, .ifCond .ge 12, 20, 0), (11, .iload_n 2, 0, 0), (12, .aload_n 0, 0, 0), (13, .invokevirtual 95, 203, 0), (16, .iadd, 0, 0), (17, .goto 4, 21, 0), (20, .iload_n 2, 0, 0), (21, .ireturn, 0, 0)] := rfl
theorem s234_20 : amSeek am_m234.1 20 = [(20, .iload_n 2, 0, 0), (21, .ireturn, 0, 0)] := rfl
theorem s234_21 : amSeek am_m234.1 21 = [(21, .ireturn, 0, 0)] := rfl
theorem p234r : am_m234.2.2.2.2.1 = some .int := rfl
theorem p234b : am_m234.2.1 = 3 := rfl
theorem m_by {hp : amH} {w : List Int32} (h : mW hp w) {k : Int32} (hp3 : 3 ≤ (w.getD 0 0).toInt) (hp15 : (w.getD 0 0).toInt ≤ 15) (f d : Nat) :
    ∃ v : Int32, 0 ≤ v.toInt ∧ v.toInt < (w.getD 0 0).toInt ∧ amRun amGG none (f + 30) (d + 1) am_m234 am_m234.1 0 [(0, .ref 66), (1, .int k)] [] hp 0 0 = some (.inl (some (.int v)), hp, 0, 0) := by
  have hl : 66 < hp.length := by
    obtain ⟨⟨cm, h1, h2⟩, h3, h4⟩ := h
    exact a_lt h1
  have q1 := m_pointsF h
  obtain ⟨⟨cm, h1, h2⟩, h3, h4⟩ := h
  have h1' : hp[66] = (11, cm) := by rw [List.getElem?_eq_getElem hl] at h1; exact Option.some.inj h1
  generalize w.getD 0 0 = p at q1 hp3 hp15 ⊢
  have hm : (k - k / p * p).toInt = k.toInt.tmod p.toInt := rem_toInt _ _
  have hlt : (k.toInt.tmod p.toInt).natAbs < p.toInt.natAbs := by
    rw [Int.natAbs_tmod]
    exact Nat.mod_lt _ (by omega)
  have hp0 : ¬ p = 0 := fun z => by rw [z] at hp3; exact absurd hp3 (by decide)
  generalize hR : k - k / p * p = R at hm hlt
  by_cases hv : 0 ≤ R
  · refine ⟨R, ?_, by omega, ?_⟩
    · have := Int32.le_iff_toInt_le.mp hv
      exact this
    · rw [s234_0]
      simp [amRun, amDo, amStep, amLd, amGet, isA_ref, isI_int, f4_2, f4_3, amNext, s234_20, s234_21, amCall, g203, lv_args, amOkL, amOkS, amOk, amRecv, h1, hl, Value.category, q1, amRetV, narrow, p203a, p203b, p203c, h1', amIf, amIfP, amDiv, hR, hv, hp0, amSt1, amSet1, p234b, p234r]
  · have hv2 : R.toInt < 0 := by
      have : ¬ (0 : Int) ≤ R.toInt := fun z => hv (Int32.le_iff_toInt_le.mpr z)
      omega
    have hs : (R + p).toInt = R.toInt + p.toInt := by rw [Int32.toInt_add, aBmod (by omega) (by omega)]
    refine ⟨R + p, by omega, by omega, ?_⟩
    rw [s234_0]
    simp [amRun, amDo, amStep, amLd, amGet, isA_ref, isI_int, f4_2, f4_3, amNext, s234_20, s234_21, amCall, g203, lv_args, amOkL, amOkS, amOk, amRecv, h1, hl, Value.category, q1, amRetV, narrow, p203a, p203b, p203c, h1', amIf, amIfP, amDiv, hR, hv, hp0, amII, amSt1, amSet1, p234b, p234r]
def be_h234 : bEt := (234, ([.inr (.inr [66]), .inl (0, 4294967295)], [], 1, [], [], [(some (.inl (2147483648, 2147483662)), [])]), [], 0, [])
theorem h234_s : bSem amGG P0 84 bTT be_h234.1 be_h234.2.1 := by
  refine ⟨am_m234, rfl, fun av hp hH hP ha _ => ?_⟩
  match av, ha with
  | [v, a], ha =>
    obtain ⟨⟨i, rfl, -, hi⟩, ⟨x, rfl, -⟩, -⟩ := ha
    have hi : i = 66 := by simpa using hi
    subst hi
    obtain ⟨w, hw, hr⟩ := r_mW hH
    have h0 := hr 0 (by omega)
    have k1 := hP.1.1
    have k2 := hP.1.2.1
    rw [h0] at k1 k2
    obtain ⟨v, g1, g2, g3⟩ := m_by hw (k := x) k1 k2 0 0
    refine ⟨30, .inl (some (.int v)), hp, g3, hH, hP, bFr.refl _ _, _, List.mem_cons_self, ⟨_, rfl, ?_⟩, fun f hf => by cases hf⟩
    have := aOff_eq v
    dsimp only
    omega
