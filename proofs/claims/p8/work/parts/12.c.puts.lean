/-! ===== puts ===== -/
theorem g205 : amGG 205 = some am_m205 := rfl
theorem p205a : am_m205.2.2.1 = 4 := rfl
theorem p205b : am_m205.2.1 = 4 := rfl
theorem p205c : am_m205.2.2.2.2.2.2 = 11 := rfl
def lay (w : List Int32) (x y : Nat) (c : Int32) : List Int32 := (w.set (4 + 15 * x + y) c).set (4 + 15 * y + x) c
theorem lay_len (w : List Int32) (x y : Nat) (c : Int32) : (lay w x y c).length = w.length := by unfold lay; rw [List.length_set, List.length_set]
theorem m_laysF {hp : amH} {w : List Int32} (h : mW hp w) {a b c : Int32} {x y : Nat} (ha : a.toInt = (x : Int)) (hb : b.toInt = (y : Int)) (hx : x < 15) (hy : y < 15) (F D : Nat) (hF : 23 ≤ F) :
    amRun amGG none F D am_m205 am_m205.1 0 [(0, .ref 66), (1, .int a), (2, .int b), (3, .int c)] [] hp 0 0 = some (.inl none, hp.set 67 (32, (lay w x y c).map Value.int), 0, 0) :=
  amRun_more 23 none 0 am_m205 am_m205.1 0 _ [] hp 0 0 _ (m_lays h ha hb hx hy 0 0 0 0) F D hF (Nat.zero_le _)
theorem m_puts {hp : amH} {w : List Int32} (h : mW hp w) {a b c : Int32} {x y z : Nat} (ha : a.toInt = (x : Int)) (hb : b.toInt = (y : Int)) (hc : c.toInt = (z : Int)) (hx : x < 15) (hy : y < 15) (hz : z < 15) (f d kc ks : Nat) :
    amRun amGG none (f + 50) (d + 1) am_m206 am_m206.1 0 [(0, .ref 66), (1, .int a), (2, .int b), (3, .int c)] [] hp kc ks = some (.inl none, hp.set 67 (32, (lay (lay (lay w x y c) y z a) x z b).map Value.int), kc, ks) := by
  have hl : 66 < hp.length := by
    obtain ⟨⟨cm, h1, h2⟩, h3, h4⟩ := h
    rcases Nat.lt_or_ge 66 hp.length with u | u
    · exact u
    · rw [List.getElem?_eq_none u] at h1; cases h1
  have k1 := h.set (w' := lay w x y c) (by rw [lay_len]; exact h.2.2)
  have k2 := h.set (w' := lay (lay w x y c) y z a) (by rw [lay_len, lay_len]; exact h.2.2)
  have q1 := m_laysF h (c := c) ha hb hx hy
  have q2 := m_laysF k1 (c := a) hb hc hy hz
  have q3 := m_laysF k2 (c := b) ha hc hx hz
  rw [List.set_set] at q2 q3
  obtain ⟨⟨cm, h1, h2⟩, h3, h4⟩ := h
  have h1' : hp[66] = (11, cm) := by rw [List.getElem?_eq_getElem hl] at h1; exact Option.some.inj h1
  obtain ⟨⟨c1, e1, -⟩, -⟩ := k1
  obtain ⟨⟨c2, e2, -⟩, -⟩ := k2
  simp [am_m206, amRun, amDo, amStep, amLd, amGet, isA_ref, isI_int, f4_2, f4_3, amNext, amCall, g205, lv_args, amOkL, amOkS, amOk, amRecv, h1, e1, e2, hl, Value.category, q1, q2, q3, amRetV, p205a, p205b, p205c, h1']
