/-! ===== isTriple, whole ===== -/
theorem w221 {hp : amH} {cm : List Value} {w : List Int32} {x : Int32} {Q : (Option Value ⊕ Nat) → amH → Prop} (h : mW hp w) (hx : 0 ≤ x.toInt) (hx2 : x.toInt < 32768) (hw : ∀ z : Int32, z = 0 ∨ z = 1 → Q (.inl (some (.int z))) hp) : bWp amGG 1 am_m221 am_m221.1 0 [(0, .ref 66), (1, .int x)] [] hp Q := by
  have hl : 66 < hp.length := by
    obtain ⟨⟨cm, h1, h2⟩, h3, h4⟩ := h
    exact a_lt h1
  have hx3 : x = Int32.ofNat x.toInt.toNat := by
    apply Int32.toInt_inj.mp
    rw [Int32.toInt_ofNat_of_lt (by omega)]
    omega
  have hbits := bits_all (i := x.toInt.toNat) (by omega)
  unfold bitsOk at hbits
  rw [← hx3] at hbits
  have key : bWp amGG 1 am_m221 (amSeek am_m221.1 4) 4 [(0, .ref 66), (1, .int x)] [.int (bcF x)] hp Q := by
    by_cases hb : bcF x = 3
    · have e3 : Nat.beq (bcF x).toInt.toNat 3 = true := by rw [hb]; rfl
      rw [e3] at hbits
      simp only [Bool.and_eq_true, decide_eq_true_eq] at hbits
      obtain ⟨⟨b1, b2⟩, b3, b4⟩ := hbits
      have k23 := w221_23 (x := x) (Q := Q) h (a := ntF x) (b := ntF (x &&& (x - 1))) (u := (ntF x).toInt.toNat) (v := (ntF (x &&& (x - 1))).toInt.toNat) (by omega) (by omega) (by omega) (by omega) hw
      have k20 : bWp amGG 1 am_m221 ((20, .invokestatic 126, 342, 0) :: amSeek am_m221.1 23) 20 [(2, .int (ntF x)), (0, .ref 66), (1, .int x)] [.int (x &&& (x - 1))] hp Q := by
        refine bWp_call (q := (20, .invokestatic 126, 342, 0)) (d := 0) (k := 342) (av := [.int (x &&& (x - 1))]) (rest := []) ?_ g342 ?_
        · simp [amDo, amStep, amCall, g342, lv_args, amOkL, amOkS, amOk, amRecv, hl, Value.category, p342a, p342b]
        · exact w_ntz k23
      have k14 : bWp amGG 1 am_m221 (amSeek am_m221.1 14) 14 [(0, .ref 66), (1, .int x)] [.int (ntF x)] hp Q := by
        refine bWp_of 6 (fun f => ?_) k20
        rw [s221_14]
        simp [amRun, amDo, amStep, amLd, amGet, isI_int, amNext, amII, amSt1, amSet1, p221b, Value.category]
      have k11 : bWp amGG 1 am_m221 ((11, .invokestatic 126, 342, 0) :: amSeek am_m221.1 14) 11 [(0, .ref 66), (1, .int x)] [.int x] hp Q := by
        refine bWp_call (q := (11, .invokestatic 126, 342, 0)) (d := 0) (k := 342) (av := [.int x]) (rest := []) ?_ g342 ?_
        · simp [amDo, amStep, amCall, g342, lv_args, amOkL, amOkS, amOk, amRecv, hl, Value.category, p342a, p342b]
        · exact w_ntz k14
      refine bWp_of 3 (fun f => ?_) k11
      rw [s221_4, s221_10]
      simp [amRun, amDo, amStep, amLd, amGet, isI_int, amNext, amCmp, amCmpP, hb]
      simp [s221_10, amRun, amDo, amStep, amLd, amGet, isI_int, amNext]
    · refine ⟨4, .inl (some (.int 0)), hp, ?_, hw 0 (Or.inl rfl)⟩
      rw [s221_4]
      simp [amRun, amDo, amStep, amNext, amCmp, amCmpP, hb, amRetV, narrow, p221r, bCnt]
  have k1 : bWp amGG 1 am_m221 ((1, .invokestatic 140, 343, 0) :: amSeek am_m221.1 4) 1 [(0, .ref 66), (1, .int x)] [.int x] hp Q := by
    refine bWp_call (q := (1, .invokestatic 140, 343, 0)) (d := 0) (k := 343) (av := [.int x]) (rest := []) ?_ g343 ?_
    · simp [amDo, amStep, amCall, g343, lv_args, amOkL, amOkS, amOk, amRecv, hl, Value.category, p343a, p343b]
    · exact ⟨42, .inl (some (.int (bcF x))), hp, m_bits 0 0, key⟩
  rw [s221_0]
  refine bWp_of 1 (fun f => ?_) k1
  simp [amRun, amDo, amStep, amLd, amGet, isI_int, amNext]
def be_h221 : bEt := (221, ([.inr (.inr [66]), .inl (2147483648, 2147516415)], [], 1, [], [], [(some (.inl (2147483648, 2147483649)), [])]), [], 0, [])
theorem h221_s : bSem amGG P0 84 bTT be_h221.1 be_h221.2.1 := by
  refine ⟨am_m221, rfl, fun av hp hH hP ha _ => ?_⟩
  match av, ha with
  | [v, a], ha =>
    obtain ⟨⟨i, rfl, -, hi⟩, ⟨x, rfl, x1, x2⟩, -⟩ := ha
    have hi : i = 66 := by simpa using hi
    subst hi
    obtain ⟨w, hw, hr⟩ := r_mW hH
    have ox := aOff_eq x
    refine w221 (cm := []) hw (by omega) (by omega) (fun z hz => ⟨hH, hP, bFr.refl _ _, _, List.mem_cons_self, ⟨_, rfl, ?_⟩, fun f hf => by cases hf⟩)
    rcases hz with rfl | rfl <;> decide
