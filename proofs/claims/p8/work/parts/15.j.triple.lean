/-! ===== isTriple ===== -/
theorem bits_all {i : Nat} (h : i < 32768) : bitsOk i = true := by
  have k := b3_all h
  unfold b3Ok at k
  unfold bitsOk
  dsimp only at k ⊢
  cases e : Nat.beq (bcF (Int32.ofNat i)).toInt.toNat 3 with
  | false => rfl
  | true =>
    rw [e] at k
    dsimp only at k
    simp only [Bool.and_eq_true, decide_eq_true_eq] at k
    obtain ⟨k0, k1, k2, k3, k4, -⟩ := k
    have k2 := Nat.le_of_ble_eq_true k2
    have k3 := Nat.le_of_ble_eq_true k3
    have k4 := Nat.le_of_ble_eq_true k4
    simp only [Bool.and_eq_true, decide_eq_true_eq]
    omega
theorem g342 : amGG 342 = some am_m342 := rfl
theorem g343 : amGG 343 = some am_m343 := rfl
theorem p342a : am_m342.2.2.1 = 1 := rfl
theorem p343a : am_m343.2.2.1 = 1 := rfl
theorem p221r : am_m221.2.2.2.2.1 = some .boolean := rfl
theorem p221b : am_m221.2.1 = 5 := rfl
theorem s221_0 : am_m221.1 = (0, .iload_n 1, 0, 0) :: (1, .invokestatic 140, 343, 0) :: amSeek am_m221.1 4 := rfl
theorem s221_4 : amSeek am_m221.1 4 = (4, .iconst 3, 0, 0) :: (5, .if_icmp .eq 5, 10, 0) :: (8, .iconst 0, 0, 0) :: (9, .ireturn, 0, 0) :: amSeek am_m221.1 10 := rfl
theorem s221_10 : amSeek am_m221.1 10 = (10, .iload_n 1, 0, 0) :: (11, .invokestatic 126, 342, 0) :: amSeek am_m221.1 14 := rfl
theorem s221_14 : amSeek am_m221.1 14 = (14, .istore_n 2, 0, 0) :: (15, .iload_n 1, 0, 0) :: (16, .iload_n 1, 0, 0) :: (17, .iconst 1, 0, 0) :: (18, .isub, 0, 0) :: (19, .iand, 0, 0) :: (20, .invokestatic 126, 342, 0) :: amSeek am_m221.1 23 := rfl
theorem s221_23 : amSeek am_m221.1 23 = (23, .istore_n 3, 0, 0) :: (24, .aload_n 0, 0, 0) :: (25, .iload_n 2, 0, 0) :: (26, .iload_n 3, 0, 0) :: (27, .invokevirtual 81, 204, 0) :: (30, .istore 4, 0, 0) :: (32, .iload 4, 0, 0) :: (34, .iconst (-1), 0, 0) :: (35, .if_icmp .eq 17, 52, 0) ::
  (38, .iload_n 1, 0, 0) :: (39, .iload 4, 0, 0) :: (41, .ishr, 0, 0) :: (42, .iconst 1, 0, 0) :: (43, .iand, 0, 0) :: (44, .iconst 1, 0, 0) :: (45, .if_icmp .ne 7, 52, 0) :: (48, .iconst 1, 0, 0) :: (49, .goto 4, 53, 0) :: amSeek am_m221.1 52 := rfl
theorem s221_52 : amSeek am_m221.1 52 = [(52, .iconst 0, 0, 0), (53, .ireturn, 0, 0)] := rfl
theorem s221_53 : amSeek am_m221.1 53 = [(53, .ireturn, 0, 0)] := rfl
section W221
variable {hp : amH} {cm : List Value} {w : List Int32} {x : Int32} {Q : (Option Value ⊕ Nat) → amH → Prop}
theorem w221_23 (h : mW hp w) {a b : Int32} {u v : Nat} (ha : a.toInt = (u : Int)) (hb : b.toInt = (v : Int)) (hu : u < 15) (hv : v < 15) (hw : ∀ z : Int32, z = 0 ∨ z = 1 → Q (.inl (some (.int z))) hp) : bWp amGG 1 am_m221 (amSeek am_m221.1 23) 23 [(2, .int a), (0, .ref 66), (1, .int x)] [.int b] hp Q := by
  have hl : 66 < hp.length := by
    obtain ⟨⟨cm, h1, h2⟩, h3, h4⟩ := h
    exact a_lt h1
  have q1 := m_thirdOfF h ha hb hu hv
  obtain ⟨⟨cm, h1, h2⟩, h3, h4⟩ := h
  have h1' : hp[66] = (11, cm) := by rw [List.getElem?_eq_getElem hl] at h1; exact Option.some.inj h1
  generalize w.getD (4 + 15 * u + v) 0 = c at q1
  by_cases z : c = -1
  · refine ⟨50, .inl (some (.int 0)), hp, ?_, hw 0 (Or.inl rfl)⟩
    rw [s221_23]
    simp [amRun, amDo, amStep, amLd, amGet, isI_int, isA_ref, f4_2, f4_3, amNext, s221_52, amCall, g204, lv_args, amOkL, amOkS, amOk, amRecv, h1, hl, Value.category, q1, amRetV, narrow, p204a, p204b, p204c, h1', amCmp, amCmpP, z, amSt1, amSet1, p221b, p221r, bCnt]
  · by_cases y : x >>> (c &&& 31) &&& 1 = 1
    · refine ⟨50, .inl (some (.int 1)), hp, ?_, hw 1 (Or.inr rfl)⟩
      rw [s221_23]
      simp [amRun, amDo, amStep, amLd, amGet, isI_int, isA_ref, f4_2, f4_3, amNext, s221_52, s221_53, amCall, g204, lv_args, amOkL, amOkS, amOk, amRecv, h1, hl, Value.category, q1, amRetV, narrow, p204a, p204b, p204c, h1', amCmp, amCmpP, z, y, amII, amSt1, amSet1, p221b, p221r, bCnt]
    · refine ⟨50, .inl (some (.int 0)), hp, ?_, hw 0 (Or.inl rfl)⟩
      rw [s221_23]
      simp [amRun, amDo, amStep, amLd, amGet, isI_int, isA_ref, f4_2, f4_3, amNext, s221_52, s221_53, amCall, g204, lv_args, amOkL, amOkS, amOk, amRecv, h1, hl, Value.category, q1, amRetV, narrow, p204a, p204b, p204c, h1', amCmp, amCmpP, z, y, amII, amSt1, amSet1, p221b, p221r, bCnt]
end W221
