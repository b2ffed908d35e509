/-! ===== takes ===== -/
theorem m_takes {hp : amH} {w : List Int32} (h : mW hp w) {a b c : Int32} {x y z : Nat} (ha : a.toInt = (x : Int)) (hb : b.toInt = (y : Int)) (hc : c.toInt = (z : Int)) (hx : x < 15) (hy : y < 15) (hz : z < 15) (f d kc ks : Nat) :
    amRun amGG none (f + 50) (d + 1) am_m207 am_m207.1 0 [(0, .ref 66), (1, .int a), (2, .int b), (3, .int c)] [] hp kc ks = some (.inl none, hp.set 67 (32, (lay (lay (lay w x y (-1)) y z (-1)) x z (-1)).map Value.int), kc, ks) := by
  have hl : 66 < hp.length := by
    obtain ⟨⟨cm, h1, h2⟩, h3, h4⟩ := h
    rcases Nat.lt_or_ge 66 hp.length with u | u
    · exact u
    · rw [List.getElem?_eq_none u] at h1; cases h1
  have k1 := h.set (w' := lay w x y (-1)) (by rw [lay_len]; exact h.2.2)
  have k2 := h.set (w' := lay (lay w x y (-1)) y z (-1)) (by rw [lay_len, lay_len]; exact h.2.2)
  have q1 := m_laysF h (c := -1) ha hb hx hy
  have q2 := m_laysF k1 (c := -1) hb hc hy hz
  have q3 := m_laysF k2 (c := -1) ha hc hx hz
  rw [List.set_set] at q2 q3
  obtain ⟨⟨cm, h1, h2⟩, h3, h4⟩ := h
  have h1' : hp[66] = (11, cm) := by rw [List.getElem?_eq_getElem hl] at h1; exact Option.some.inj h1
  obtain ⟨⟨c1, e1, -⟩, -⟩ := k1
  obtain ⟨⟨c2, e2, -⟩, -⟩ := k2
  simp [am_m207, amRun, amDo, amStep, amLd, amGet, isA_ref, isI_int, f4_2, f4_3, amNext, amCall, g205, lv_args, amOkL, amOkS, amOk, amRecv, h1, e1, e2, hl, Value.category, q1, q2, q3, amRetV, p205a, p205b, p205c, h1']
