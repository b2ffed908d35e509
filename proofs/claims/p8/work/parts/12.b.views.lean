/-! ===== rows of ints, read and written ===== -/
theorem rw_in {i : Int32} {n m : Nat} (hi : i.toInt = (n : Int)) (hn : n < m) : i.toNatClampNeg = n ∧ amIn i m = true := by
  have e : i.toNatClampNeg = n := by
    show i.toInt.toNat = _
    rw [hi]; rfl
  refine ⟨e, decide_eq_true ?_⟩
  rw [not_or, e]
  refine ⟨fun z => ?_, fun z => ?_⟩
  · have := Int32.lt_iff_toInt_lt.mp z
    rw [a_zero] at this
    omega
  · omega
theorem rw_rd {hp : amH} {a n : Nat} {w : List Int32} {i : Int32} {r : List Value} (h : hp[a]? = some (32, w.map Value.int)) (hi : i.toInt = (n : Int)) (hn : n < w.length) : amALd 32 amIsI hp (.int i :: .ref a :: r) = some (.int (w.getD n 0) :: r) := by
  obtain ⟨e1, e2⟩ := rw_in (m := (w.map Value.int).length) hi (by rw [List.length_map]; exact hn)
  have hg : (w.map Value.int).getD i.toNatClampNeg .null = .int (w.getD n 0) := by
    rw [e1, List.getD_eq_getElem?_getD, List.getElem?_map, List.getD_eq_getElem?_getD, List.getElem?_eq_getElem hn]
    rfl
  simp only [amALd, h, e2, hg, amIsI, and_self, if_true]
theorem rw_wr {hp : amH} {a n : Nat} {w : List Int32} {i v : Int32} {r : List Value} (h : hp[a]? = some (32, w.map Value.int)) (hi : i.toInt = (n : Int)) (hn : n < w.length) : amASt 32 amIsI id hp (.int v :: .int i :: .ref a :: r) = some (r, hp.set a (32, (w.set n v).map Value.int)) := by
  obtain ⟨e1, e2⟩ := rw_in (m := (w.map Value.int).length) hi (by rw [List.length_map]; exact hn)
  simp only [amASt, h, e2, e1, amIsI, and_self, if_true, id, List.map_set]
/-- the reference's row of third points -/
def mW (hp : amH) (w : List Int32) : Prop := (∃ cm, hp[66]? = some (11, cm) ∧ cm[0]? = some (.ref 67)) ∧ hp[67]? = some (32, w.map Value.int) ∧ w.length = 229
theorem m_points {G : Nat → Option amM} {hp : amH} {w : List Int32} (h : mW hp w) (f d kc ks : Nat) :
    amRun G none (f + 6) d am_m203 am_m203.1 0 [(0, .ref 66)] [] hp kc ks = some (.inl (some (.int (w.getD 0 0))), hp, kc, ks) := by
  obtain ⟨⟨cm, h1, h2⟩, h3, h4⟩ := h
  have hr := rw_rd (r := []) (i := 0) h3 (n := 0) (by decide) (by omega)
  simp [am_m203, amRun, amDo, amStep, amLd, amGet, amIsA, amNext, amFGet, h1, h2, amSc, hr, amRetV, narrow]
theorem m_idx {a b : Int32} {x y : Nat} (ha : a.toInt = (x : Int)) (hb : b.toInt = (y : Int)) (hx : x < 15) (hy : y < 15) : (4 + 15 * a + b).toInt = ((4 + 15 * x + y : Nat) : Int) := by
  have e4 : (4 : Int32).toInt = 4 := by decide
  have e15 : (15 : Int32).toInt = 15 := by decide
  have h1 : (15 * a).toInt = 15 * (x : Int) := by
    rw [Int32.toInt_mul, e15, ha, aBmod (by omega) (by omega)]
  have h2 : (4 + 15 * a).toInt = 4 + 15 * (x : Int) := by
    rw [Int32.toInt_add, e4, h1, aBmod (by omega) (by omega)]
  rw [Int32.toInt_add, h2, hb, aBmod (by omega) (by omega)]
  omega
theorem m_thirdOf {G : Nat → Option amM} {hp : amH} {w : List Int32} (h : mW hp w) {a b : Int32} {x y : Nat} (ha : a.toInt = (x : Int)) (hb : b.toInt = (y : Int)) (hx : x < 15) (hy : y < 15) (f d kc ks : Nat) :
    amRun G none (f + 12) d am_m204 am_m204.1 0 [(0, .ref 66), (1, .int a), (2, .int b)] [] hp kc ks = some (.inl (some (.int (w.getD (4 + 15 * x + y) 0))), hp, kc, ks) := by
  obtain ⟨⟨cm, h1, h2⟩, h3, h4⟩ := h
  have hr := rw_rd (r := []) h3 (m_idx ha hb hx hy) (by omega)
  simp [am_m204, amRun, amDo, amStep, amLd, amGet, amIsA, amIsI, amNext, amFGet, amII, h1, h2, amSc, hr, amRetV, narrow]
theorem mW.set {hp : amH} {w : List Int32} (h : mW hp w) {w' : List Int32} (hl : w'.length = 229) : mW (hp.set 67 (32, w'.map Value.int)) w' := by
  obtain ⟨⟨cm, h1, h2⟩, h3, h4⟩ := h
  have hlt : 67 < hp.length := by
    rcases Nat.lt_or_ge 67 hp.length with z | z
    · exact z
    · rw [List.getElem?_eq_none z] at h3; cases h3
  exact ⟨⟨cm, by rw [List.getElem?_set_ne (by decide)]; exact h1, h2⟩, List.getElem?_set_self hlt, hl⟩
theorem f4_3 : ((3 : Fin 4) : Nat) = 3 := rfl
theorem f4_2 : ((2 : Fin 4) : Nat) = 2 := rfl
theorem isI_int (x : Int32) : amIsI (.int x) = true := rfl
theorem isA_ref (x : Nat) : amIsA (.ref x) = true := rfl
theorem m_lays {G : Nat → Option amM} {hp : amH} {w : List Int32} (h : mW hp w) {a b c : Int32} {x y : Nat} (ha : a.toInt = (x : Int)) (hb : b.toInt = (y : Int)) (hx : x < 15) (hy : y < 15) (f d kc ks : Nat) :
    amRun G none (f + 23) d am_m205 am_m205.1 0 [(0, .ref 66), (1, .int a), (2, .int b), (3, .int c)] [] hp kc ks = some (.inl none, hp.set 67 (32, (((w.set (4 + 15 * x + y) c).set (4 + 15 * y + x) c).map Value.int)), kc, ks) := by
  have hm := h.set (w' := w.set (4 + 15 * x + y) c) (by rw [List.length_set]; exact h.2.2)
  obtain ⟨⟨cm, h1, h2⟩, h3, h4⟩ := h
  obtain ⟨⟨cm', g1, g2⟩, g3, g4⟩ := hm
  have hr := rw_wr (r := []) (v := c) h3 (m_idx ha hb hx hy) (by omega)
  have hr2 := rw_wr (r := []) (v := c) g3 (m_idx hb ha hy hx) (by omega)
  rw [List.set_set] at hr2
  rw [List.getElem?_set_ne (by decide)] at g1
  cases h1.symm.trans g1
  have g5 : (hp.set 67 (32, (w.set (4 + 15 * x + y) c).map Value.int))[66]? = some (11, cm) := by rw [List.getElem?_set_ne (by decide)]; exact h1
  simp only [List.map_set] at hr hr2 g5
  simp [am_m205, amRun, amDo, amStep, amLd, amGet, isA_ref, isI_int, f4_2, f4_3, amNext, amFGet, amII, h1, h2, g5, hr, hr2, amRetV]
