/-! ===== laysTriples: what it lays ===== -/
def bLT : List (Nat × Nat) := [(72, 999), (73, 999), (74, 999), (75, 999), (66, 12)]
/-- the first m triples of the list are triples of the row r -/
def lOk (r : Nat → Int) (hp : amH) (m : Nat) : Prop := ∀ k, k < m → ∃ (x y z : Nat) (a b c : Int32), x < y ∧ y < z ∧ z < 15 ∧ r (4 + 15 * x + y) = (z : Int) ∧ a.toInt = (x : Int) ∧ b.toInt = (y : Int) ∧ c.toInt = (z : Int) ∧ rN hp 72 k = (x : Int) ∧ rN hp 73 k = (y : Int) ∧ rN hp 74 k = (z : Int) ∧ rN hp 75 k = (msk a b c).toInt
def LI (r : Nat → Int) (hp0 hp : amH) (N m : Nat) : Prop := bHk 84 bTT hp ∧ bFr bLT hp0 hp ∧ rN hp 66 12 = (m : Int) ∧ (∃ L, gL r N L ∧ L.length = 3 * m) ∧ lOk r hp m
theorem LI_mono {r : Nat → Int} {hp0 hp : amH} {N N1 m : Nat} (h : LI r hp0 hp N m) (hN : N ≤ N1) : LI r hp0 hp N1 m := by
  obtain ⟨h1, h2, h3, ⟨L, h4, h5⟩, h6⟩ := h
  exact ⟨h1, h2, h3, ⟨L, gL_mono h4 hN, h5⟩, h6⟩
theorem i_of {a : Int32} {x : Nat} (h : a.toInt = (x : Int)) (hx : x < 15) : a = Int32.ofNat x := by
  apply Int32.toInt_inj.mp
  rw [h, Int32.toInt_ofNat_of_lt (by omega)]
theorem msk_le : ∀ x y z : Fin 15, 2147483648 ≤ aOff (msk (Int32.ofNat x) (Int32.ofNat y) (Int32.ofNat z)) ∧ aOff (msk (Int32.ofNat x) (Int32.ofNat y) (Int32.ofNat z)) ≤ 2147516415 := by decide +kernel
theorem mok {n i : Nat} {cl : amL} {v : Int32} (h : amOkL n cl = true) : amOkL n (amSet1 cl i (.int v)) = true := by
  unfold amOkL amSet1 at *
  rw [List.all_cons]
  refine Bool.and_eq_true_iff.mpr ⟨rfl, ?_⟩
  rw [List.all_eq_true] at h ⊢
  exact fun q hq => h q (List.mem_filter.mp hq).1
theorem r_st {hp : amH} (hH : bHk 84 bTT hp) {q m t lo hi : Nat} {D : bD} {vs : List Value} {v : Int32} (hq : q < 84) (hT : bTT q = some D) (h2 : hp[q]? = some (t, vs)) (hy : bDy D m = some (.inl (lo, hi))) (hv : lo ≤ aOff v) (hv2 : aOff v ≤ hi) (hm : m < D.2.1) :
    bHk 84 bTT (hp.set q (t, vs.set m (.int v))) ∧ (∀ c i, ¬ (c = q ∧ i = m) → rN (hp.set q (t, vs.set m (.int v))) c i = rN hp c i) ∧ rN (hp.set q (t, vs.set m (.int v))) q m = v.toInt ∧ ∀ W, bIn W q m = true → bFr W hp (hp.set q (t, vs.set m (.int v))) := by
  obtain ⟨c, h1, hc⟩ := bHk_at hH hq hT
  cases h1.symm.trans h2
  have hlen : m < vs.length := by
    have := hc.2.1
    dsimp only at this
    omega
  refine ⟨bHk_set hH hT (bHc_set hc hy ⟨v, rfl, hv, hv2⟩), fun c i hci => ?_, ?_, fun W hW => bFr_set (d := (t, vs)) h2 hW⟩
  · apply rN_eq
    rw [bFld_set h2]
    split
    · next e =>
      subst e
      dsimp only
      rw [List.getElem?_set_ne (fun z => hci ⟨rfl, z.symm⟩)]
      unfold bFld
      rw [h2]
    · rfl
  · unfold rN
    rw [bFld_set h2, if_pos rfl]
    dsimp only
    rw [List.getElem?_set_self hlen]
def bR66 : List bY := match bTT 66 with
  | some D => D.2.2
  | none => []
theorem r_cell {hp : amH} (hH : bHk 84 bTT hp) : ∃ cm, hp[66]? = some (11, cm) ∧ cm[0]? = some (.ref 67) ∧ cm[8]? = some (.ref 72) ∧ cm[9]? = some (.ref 73) ∧ cm[10]? = some (.ref 74) ∧ cm[11]? = some (.ref 75) ∧ ∃ mi, cm[12]? = some (.int mi) ∧ mi.toInt = rN hp 66 12 := by
  obtain ⟨d, g1, g2, g3, g4⟩ := bHk_at hH (i := 66) (by decide) rfl
  obtain ⟨t, vs⟩ := d
  have ht : t = 11 := g2
  subst ht
  have g3 : vs.length = 33 := g3
  have rf : ∀ i j : Nat, i < 33 → bDy (11, 33, bR66) i = some (.inr (.inr [j])) → vs[i]? = some (.ref j) := by
    intro i j hi hd
    have hlt : i < vs.length := by omega
    obtain ⟨y, k1, k2⟩ := g4 i vs[i] (List.getElem?_eq_getElem hlt)
    have k1 := k1.symm.trans hd
    cases k1
    obtain ⟨u, e1, -, e3⟩ := k2
    have hu : u = j := by simpa using e3
    rw [List.getElem?_eq_getElem hlt, e1, hu]
  have hlt : 12 < vs.length := by omega
  obtain ⟨y, k1, k2⟩ := g4 12 vs[12] (List.getElem?_eq_getElem hlt)
  cases k1
  obtain ⟨mi, e1, -⟩ := k2
  refine ⟨vs, g1, rf 0 67 (by omega) rfl, rf 8 72 (by omega) rfl, rf 9 73 (by omega) rfl, rf 10 74 (by omega) rfl, rf 11 75 (by omega) rfl, mi, by rw [List.getElem?_eq_getElem hlt, e1], ?_⟩
  unfold rN bFld
  rw [g1]
  dsimp only
  rw [List.getElem?_eq_getElem hlt, e1]
