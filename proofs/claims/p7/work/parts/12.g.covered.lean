/-! ===== coveredOf ===== -/
theorem g204 : amGG 204 = some am_m204 := rfl
theorem p204a : am_m204.2.2.1 = 3 := rfl
theorem p204b : am_m204.2.1 = 3 := rfl
theorem p204c : am_m204.2.2.2.2.2.2 = 11 := rfl
theorem m_thirdOfF {hp : amH} {w : List Int32} (h : mW hp w) {a b : Int32} {x y : Nat} (ha : a.toInt = (x : Int)) (hb : b.toInt = (y : Int)) (hx : x < 15) (hy : y < 15) (F D : Nat) (hF : 12 ≤ F) :
    amRun amGG none F D am_m204 am_m204.1 0 [(0, .ref 66), (1, .int a), (2, .int b)] [] hp 0 0 = some (.inl (some (.int (w.getD (4 + 15 * x + y) 0))), hp, 0, 0) :=
  amRun_more 12 none 0 am_m204 am_m204.1 0 _ [] hp 0 0 _ (m_thirdOf h ha hb hx hy 0 0 0 0) F D hF (Nat.zero_le _)
theorem m_coveredOf {hp : amH} {w : List Int32} (h : mW hp w) {a b : Int32} {x y : Nat} (ha : a.toInt = (x : Int)) (hb : b.toInt = (y : Int)) (hx : x < 15) (hy : y < 15) (f d kc ks : Nat) :
    amRun amGG none (f + 30) (d + 1) am_m208 am_m208.1 0 [(0, .ref 66), (1, .int a), (2, .int b)] [] hp kc ks = some (.inl (some (.int (if w.getD (4 + 15 * x + y) 0 = -1 then 0 else 1))), hp, kc, ks) := by
  have hl : 66 < hp.length := by
    obtain ⟨⟨cm, h1, h2⟩, h3, h4⟩ := h
    rcases Nat.lt_or_ge 66 hp.length with u | u
    · exact u
    · rw [List.getElem?_eq_none u] at h1; cases h1
  have q1 := m_thirdOfF h ha hb hx hy
  obtain ⟨⟨cm, h1, h2⟩, h3, h4⟩ := h
  have h1' : hp[66] = (11, cm) := by rw [List.getElem?_eq_getElem hl] at h1; exact Option.some.inj h1
  generalize w.getD (4 + 15 * x + y) 0 = v at q1 ⊢
  by_cases hv : v = -1
  · simp [am_m208, amRun, amDo, amStep, amLd, amGet, isA_ref, isI_int, f4_2, f4_3, amNext, amSeek, amCall, g204, lv_args, amOkL, amOkS, amOk, amRecv, h1, hl, Value.category, q1, amRetV, narrow, p204a, p204b, p204c, h1', amCmp, amCmpP, hv]
  · simp [am_m208, amRun, amDo, amStep, amLd, amGet, isA_ref, isI_int, f4_2, f4_3, amNext, amSeek, amCall, g204, lv_args, amOkL, amOkS, amOk, amRecv, h1, hl, Value.category, q1, amRetV, narrow, p204a, p204b, p204c, h1', amCmp, amCmpP, hv]
