/-! ===== the reference's systems: triples put, developed ===== -/
/-- the reference's row is a system -/
def rdOk (hp : amH) (V : Nat) (T : sT) : Prop := rN hp 67 0 = (V : Int) ∧ sOk V T ∧ (∀ u v, u < 15 → v < 15 → tT hp u v = T u v) ∧ ∀ u v, ¬ (u < 15 ∧ v < 15) → T u v = -1
theorem rd_fr3 {hp : amH} {V : Nat} {T : sT} (h : rdOk hp V T) {a b c : Nat} (ha : a < V) (hb : b < V) (hc : c < V) : fr3 hp a b c ↔ sFree T a b c := by
  have hV := h.2.1.2.1
  unfold fr3
  rw [h.2.2.1 a b (by omega) (by omega), h.2.2.1 b c (by omega) (by omega), h.2.2.1 a c (by omega) (by omega)]
theorem rdOk_fr {hp hp1 : amH} {V : Nat} {T : sT} (h : rdOk hp V T) (e : ∀ i, rN hp1 67 i = rN hp 67 i) : rdOk hp1 V T :=
  ⟨by rw [e]; exact h.1, h.2.1, fun u v hu hv => by unfold tT; rw [e]; exact h.2.2.1 u v hu hv, h.2.2.2⟩
theorem k_rfree {d : Nat} {hp : amH} {R : xQ} {V x y z : Nat} {T : sT} {a b c : Int32} (hH : bHk 84 bTT hp) (hB : rdOk hp V T) (ha : a.toInt = (x : Int)) (hb : b.toInt = (y : Int)) (hc : c.toInt = (z : Int)) (hx : x < V) (hy : y < V) (hz : z < V) (hR : ∀ r : Int32, ((r.toInt = 1 ∧ sFree T x y z) ∨ (r.toInt = 0 ∧ ¬ sFree T x y z)) → R (.inl (some (.int r))) hp) : xK (d + 3) 210 [.ref 66, .int a, .int b, .int c] hp R := by
  have hV := hB.2.1.2.1
  refine k_free hH (by omega) (by omega) (by omega) (by omega) (by omega) (by omega) (fun r h => hR r ?_)
  rw [show a.toInt.toNat = x by omega, show b.toInt.toNat = y by omega, show c.toInt.toNat = z by omega, rd_fr3 hB hx hy hz] at h
  exact h
theorem k_rput {d : Nat} {hp : amH} {R : xQ} {V x y z : Nat} {T : sT} {a b c : Int32} (hH : bHk 84 bTT hp) (hP : P0 hp) (hB : rdOk hp V T) (ha : a.toInt = (x : Int)) (hb : b.toInt = (y : Int)) (hc : c.toInt = (z : Int)) (hx : x < V) (hy : y < V) (hz : z < V) (hxy : ¬ x = y) (hyz : ¬ y = z) (hxz : ¬ x = z) (hf : sFree T x y z)
    (hR : ∀ hp1, bHk 84 bTT hp1 → P0 hp1 → bFr [(67, 999)] hp hp1 → (∀ i, i < 4 → rN hp1 67 i = rN hp 67 i) → rdOk hp1 V (sPut T x y z) → R (.inl none) hp1) : xK (d + 1) 206 [.ref 66, .int a, .int b, .int c] hp R := by
  have hV := hB.2.1.2.1
  have b1 := hB.1
  refine k_put hH hP (by omega) (by omega) (by omega) (by omega) (by omega) (by omega) (by omega) (by omega) (by omega) ?_ (fun hp1 g1 g2 g3 g4 g5 => hR hp1 g1 g2 g3 g4 ⟨by rw [g4 0 (by omega)]; exact b1, sOk_put hB.2.1 hx hy hz hxy hyz hxz hf, fun u v hu hv => ?_, fun u v h => ?_⟩)
  · rw [show a.toInt.toNat = x by omega, show b.toInt.toNat = y by omega, show c.toInt.toNat = z by omega]
    exact (rd_fr3 hB hx hy hz).mpr hf
  · rw [g5 u v hu hv, show a.toInt.toNat = x by omega, show b.toInt.toNat = y by omega, show c.toInt.toNat = z by omega, ha, hb, hc, hB.2.2.1 u v hu hv]
    rfl
  · unfold sPut
    rw [if_neg (by omega)]
    exact hB.2.2.2 u v h
theorem k_rtrn {d : Nat} {hp : amH} {R : xQ} {V x k : Nat} {T : sT} {a b : Int32} (hH : bHk 84 bTT hp) (hP : P0 hp) (hB : rdOk hp V T) (ha : a.toInt = (x : Int)) (hb : b.toInt = (k : Int)) (hx : x < V) (hk : k < V) (hR : ∀ z : Int32, z.toInt = (((x + k) % V : Nat) : Int) → R (.inl (some (.int z))) hp) : xK (d + 1) 233 [.ref 66, .int a, .int b] hp R := by
  have b1 := hB.1
  refine k_turn2 hH hP (by omega) (by omega) (by omega) (by omega) (fun z h => hR z ?_)
  obtain ⟨h1, h2, h3⟩ := h
  rcases Nat.lt_or_ge (x + k) V with g | g
  · rw [Nat.mod_eq_of_lt g]; omega
  · rw [Nat.mod_eq_sub_mod g, Nat.mod_eq_of_lt (by omega)]; omega
theorem l237 {d : Nat} {hp0 : amH} {R : xQ} {V a b c : Nat} {x y z wh : Int32} (hx : x.toInt = (a : Int)) (hy : y.toInt = (b : Int)) (hz : z.toInt = (c : Int)) (hwh : wh.toInt = ((m3 a b c : Nat) : Int)) (ha : a < V) (hb : b < V) (hc : c < V) (hab : ¬ a = b) (hbc : ¬ b = c) (hac : ¬ a = c)
    {X : Option (sT × Nat)} (hR : ∀ (r : Int32) hp1, bHk 84 bTT hp1 → P0 hp1 → bFr [(67, 999)] hp0 hp1 → (∀ i, i < 4 → rN hp1 67 i = rN hp0 67 i) → (match X with
      | none => r.toInt = -1
      | some q => r.toInt = (q.2 : Int) ∧ rdOk hp1 V q.1) → R (.inl (some (.int r))) hp1) :
    ∀ (f k n : Nat) (T : sT) (hp : amH) (m i : Int32) (v7 v8 v9 : Option Value), bHk 84 bTT hp → P0 hp → bFr [(67, 999)] hp0 hp → (∀ i, i < 4 → rN hp 67 i = rN hp0 67 i) → rdOk hp V T → f + k = V → n ≤ k → m.toInt = (n : Int) → i.toInt = (k : Int) → sDv V a b c f k T n = X → xV (d + 4) am_m237 19 [some (.ref 66), some (.int x), some (.int y), some (.int z), some (.int m), some (.int wh), some (.int i), v7, v8, v9] [] hp R := by
  intro f
  induction f with
  | zero =>
    intro k n T hp m i v7 v8 v9 hH hP hF h4 hB hk hn hm hi hX
    have hV := hB.2.1.2.1
    have b1 := hB.1
    have hX : some (T, n) = X := hX
    subst hX
    refine xild2 21 ⟨u237, _, rfl⟩ rfl rfl ?_
    refine xald 22 ⟨u237, _, rfl⟩ rfl rfl ?_
    refine xcall 25 [.ref 66] [.int _] hH ⟨u237, _, rfl⟩ rfl rfl rfl rfl rfl (k_points hH (fun z22 h22 => ⟨_, rfl, ?_⟩))
    refine xcmp_ge 28 ⟨u237, _, rfl⟩ rfl (fun c25 => ?_) (fun c25 => ?_)
    · refine xild2 118 ⟨u237, _, rfl⟩ rfl rfl ?_
      exact xret ⟨u237, _, rfl⟩ rfl (hR _ hp hH hP hF h4 ⟨hm, hB⟩)
    · omega
  | succ f ih =>
    intro k n T hp m i v7 v8 v9 hH hP hF h4 hB hk hn hm hi hX
    have hV := hB.2.1.2.1
    have b1 := hB.1
    have hA := Nat.mod_lt (a + k) (by omega : 0 < V)
    have hBk := Nat.mod_lt (b + k) (by omega : 0 < V)
    have hC := Nat.mod_lt (c + k) (by omega : 0 < V)
    unfold sDv at hX
    refine xild2 21 ⟨u237, _, rfl⟩ rfl rfl ?_
    refine xald 22 ⟨u237, _, rfl⟩ rfl rfl ?_
    refine xcall 25 [.ref 66] [.int _] hH ⟨u237, _, rfl⟩ rfl rfl rfl rfl rfl (k_points hH (fun z22 h22 => ⟨_, rfl, ?_⟩))
    refine xcmp_ge 28 ⟨u237, _, rfl⟩ rfl (fun c25 => ?_) (fun c25 => ?_)
    · omega
    · refine xald 29 ⟨u237, _, rfl⟩ rfl rfl ?_
      refine xild 30 ⟨u237, _, rfl⟩ rfl rfl ?_
      refine xild2 32 ⟨u237, _, rfl⟩ rfl rfl ?_
      refine xcall 35 [.ref 66, .int _, .int _] [] hH ⟨u237, _, rfl⟩ rfl rfl rfl rfl rfl (k_rtrn hH hP hB hx hi (by omega) (by omega) (fun z32 h32 => ⟨_, rfl, ?_⟩))
      refine xist2 37 ⟨u237, _, rfl⟩ rfl rfl ?_
      refine xald 38 ⟨u237, _, rfl⟩ rfl rfl ?_
      refine xild 39 ⟨u237, _, rfl⟩ rfl rfl ?_
      refine xild2 41 ⟨u237, _, rfl⟩ rfl rfl ?_
      refine xcall 44 [.ref 66, .int _, .int _] [] hH ⟨u237, _, rfl⟩ rfl rfl rfl rfl rfl (k_rtrn hH hP hB hy hi (by omega) (by omega) (fun z41 h41 => ⟨_, rfl, ?_⟩))
      refine xist2 46 ⟨u237, _, rfl⟩ rfl rfl ?_
      refine xald 47 ⟨u237, _, rfl⟩ rfl rfl ?_
      refine xild 48 ⟨u237, _, rfl⟩ rfl rfl ?_
      refine xild2 50 ⟨u237, _, rfl⟩ rfl rfl ?_
      refine xcall 53 [.ref 66, .int _, .int _] [] hH ⟨u237, _, rfl⟩ rfl rfl rfl rfl rfl (k_rtrn hH hP hB hz hi (by omega) (by omega) (fun z50 h50 => ⟨_, rfl, ?_⟩))
      refine xist2 55 ⟨u237, _, rfl⟩ rfl rfl ?_
      refine xild2 57 ⟨u237, _, rfl⟩ rfl rfl ?_
      refine xif_le 60 ⟨u237, _, rfl⟩ rfl (fun c57 => ?_) (fun c57 => ?_)
      · rw [if_neg (by omega)] at hX
        refine xald 83 ⟨u237, _, rfl⟩ rfl rfl ?_
        refine xild2 85 ⟨u237, _, rfl⟩ rfl rfl ?_
        refine xild2 87 ⟨u237, _, rfl⟩ rfl rfl ?_
        refine xild2 89 ⟨u237, _, rfl⟩ rfl rfl ?_
        refine xcall 92 [.ref 66, .int _, .int _, .int _] [] hH ⟨u237, _, rfl⟩ rfl rfl rfl rfl rfl (k_rfree hH hB h32 h41 h50 hA hBk hC (fun z89 h89 => ⟨_, rfl, ?_⟩))
        refine xif_ne 95 ⟨u237, _, rfl⟩ rfl (fun c92 => ?_) (fun c92 => ?_)
        · have fr : sFree T ((a + k) % V) ((b + k) % V) ((c + k) % V) := by rcases h89 with g | g; exact g.2; omega
          rw [if_pos fr] at hX
          refine xald 98 ⟨u237, _, rfl⟩ rfl rfl ?_
          refine xild2 100 ⟨u237, _, rfl⟩ rfl rfl ?_
          refine xild2 102 ⟨u237, _, rfl⟩ rfl rfl ?_
          refine xild2 104 ⟨u237, _, rfl⟩ rfl rfl ?_
          refine xcall 107 [.ref 66, .int _, .int _, .int _] [] hH ⟨u237, _, rfl⟩ rfl rfl rfl rfl rfl (k_rput hH hP hB h32 h41 h50 hA hBk hC (md_ne ha hb hab) (md_ne hb hc hbc) (md_ne ha hc hac) fr (fun hp104 hH104 hP104 F104 E104 B104 => ⟨_, rfl, ?_⟩))
          refine xinc 110 (1) ⟨u237, _, rfl⟩ rfl rfl rfl (by decide) (by omega) (by omega) (fun z107 h107 => ?_)
          refine xinc 113 (1) ⟨u237, _, rfl⟩ rfl rfl rfl (by decide) (by omega) (by omega) (fun z110 h110 => ?_)
          refine xgoto ⟨u237, _, rfl⟩ ?_
          exact ih (k + 1) (n + 1) _ hp104 _ _ _ _ _ hH104 hP104 (hF.trans F104) (fun i hi => (E104 i hi).trans (h4 i hi)) B104 (by omega) (by omega) (by omega) (by omega) hX
        · refine xcst 96 (-1) ⟨u237, _, rfl⟩ rfl (by decide) (fun z95 h95 => ?_)
          have nf : ¬ sFree T ((a + k) % V) ((b + k) % V) ((c + k) % V) := by rcases h89 with g | g; omega; exact g.2
          rw [if_neg nf] at hX
          subst hX
          exact xret ⟨u237, _, rfl⟩ rfl (hR _ hp hH hP hF h4 h95)
      · refine xcst 61 (1) ⟨u237, _, rfl⟩ rfl (by decide) (fun z60 h60 => ?_)
        refine xild2 63 ⟨u237, _, rfl⟩ rfl rfl ?_
        refine xshl 64 ⟨u237, _, rfl⟩ rfl ?_
        refine xcst 65 (1) ⟨u237, _, rfl⟩ rfl (by decide) (fun z64 h64 => ?_)
        refine xild2 67 ⟨u237, _, rfl⟩ rfl rfl ?_
        refine xshl 68 ⟨u237, _, rfl⟩ rfl ?_
        refine xor_ 69 ⟨u237, _, rfl⟩ rfl ?_
        refine xcst 70 (1) ⟨u237, _, rfl⟩ rfl (by decide) (fun z69 h69 => ?_)
        refine xild2 72 ⟨u237, _, rfl⟩ rfl rfl ?_
        refine xshl 73 ⟨u237, _, rfl⟩ rfl ?_
        refine xor_ 74 ⟨u237, _, rfl⟩ rfl ?_
        refine xild2 76 ⟨u237, _, rfl⟩ rfl rfl ?_
        have e1 := i_shl h60 h32 (by omega)
        have e2 := i_shl h64 h41 (by omega)
        have e3 := i_or e1.1 e2.1 e1.2 e2.2
        have e4 := i_shl h69 h50 (by omega)
        have e5 := i_or e3.1 e4.1 e3.2 e4.2
        have eM : ((z60 <<< (z32 &&& 31) ||| z64 <<< (z41 &&& 31)) ||| z69 <<< (z50 &&& 31)).toInt = ((m3 ((a + k) % V) ((b + k) % V) ((c + k) % V) : Nat) : Int) := e5.1
        refine xcmp_ne 79 ⟨u237, _, rfl⟩ rfl (fun c76 => ?_) (fun c76 => ?_)
        · rw [if_neg (fun z => by omega)] at hX
          refine xald 83 ⟨u237, _, rfl⟩ rfl rfl ?_
          refine xild2 85 ⟨u237, _, rfl⟩ rfl rfl ?_
          refine xild2 87 ⟨u237, _, rfl⟩ rfl rfl ?_
          refine xild2 89 ⟨u237, _, rfl⟩ rfl rfl ?_
          refine xcall 92 [.ref 66, .int _, .int _, .int _] [] hH ⟨u237, _, rfl⟩ rfl rfl rfl rfl rfl (k_rfree hH hB h32 h41 h50 hA hBk hC (fun z89 h89 => ⟨_, rfl, ?_⟩))
          refine xif_ne 95 ⟨u237, _, rfl⟩ rfl (fun c92 => ?_) (fun c92 => ?_)
          · have fr : sFree T ((a + k) % V) ((b + k) % V) ((c + k) % V) := by rcases h89 with g | g; exact g.2; omega
            rw [if_pos fr] at hX
            refine xald 98 ⟨u237, _, rfl⟩ rfl rfl ?_
            refine xild2 100 ⟨u237, _, rfl⟩ rfl rfl ?_
            refine xild2 102 ⟨u237, _, rfl⟩ rfl rfl ?_
            refine xild2 104 ⟨u237, _, rfl⟩ rfl rfl ?_
            refine xcall 107 [.ref 66, .int _, .int _, .int _] [] hH ⟨u237, _, rfl⟩ rfl rfl rfl rfl rfl (k_rput hH hP hB h32 h41 h50 hA hBk hC (md_ne ha hb hab) (md_ne hb hc hbc) (md_ne ha hc hac) fr (fun hp104 hH104 hP104 F104 E104 B104 => ⟨_, rfl, ?_⟩))
            refine xinc 110 (1) ⟨u237, _, rfl⟩ rfl rfl rfl (by decide) (by omega) (by omega) (fun z107 h107 => ?_)
            refine xinc 113 (1) ⟨u237, _, rfl⟩ rfl rfl rfl (by decide) (by omega) (by omega) (fun z110 h110 => ?_)
            refine xgoto ⟨u237, _, rfl⟩ ?_
            exact ih (k + 1) (n + 1) _ hp104 _ _ _ _ _ hH104 hP104 (hF.trans F104) (fun i hi => (E104 i hi).trans (h4 i hi)) B104 (by omega) (by omega) (by omega) (by omega) hX
          · refine xcst 96 (-1) ⟨u237, _, rfl⟩ rfl (by decide) (fun z95 h95 => ?_)
            have nf : ¬ sFree T ((a + k) % V) ((b + k) % V) ((c + k) % V) := by rcases h89 with g | g; omega; exact g.2
            rw [if_neg nf] at hX
            subst hX
            exact xret ⟨u237, _, rfl⟩ rfl (hR _ hp hH hP hF h4 h95)
        · refine xild2 81 ⟨u237, _, rfl⟩ rfl rfl ?_
          rw [if_pos ⟨by omega, by omega⟩] at hX
          subst hX
          exact xret ⟨u237, _, rfl⟩ rfl (hR _ hp hH hP hF h4 ⟨hm, hB⟩)
theorem k_rdvs {d : Nat} {hp : amH} {R : xQ} {V a b c : Nat} {T : sT} {x y z : Int32} (hH : bHk 84 bTT hp) (hP : P0 hp) (hB : rdOk hp V T) (hx : x.toInt = (a : Int)) (hy : y.toInt = (b : Int)) (hz : z.toInt = (c : Int)) (ha : a < V) (hb : b < V) (hc : c < V) (hab : ¬ a = b) (hbc : ¬ b = c) (hac : ¬ a = c)
    (hR : ∀ (r : Int32) hp1, bHk 84 bTT hp1 → P0 hp1 → bFr [(67, 999)] hp hp1 → (∀ i, i < 4 → rN hp1 67 i = rN hp 67 i) → (match sDv V a b c V 0 T 0 with
      | none => r.toInt = -1
      | some q => r.toInt = (q.2 : Int) ∧ rdOk hp1 V q.1) → R (.inl (some (.int r))) hp1) : xK (d + 4) 237 [.ref 66, .int x, .int y, .int z] hp R := by
  have hV := hB.2.1.2.1
  refine xin (M := am_m237) rfl rfl rfl ?_
  refine xcst 1 (0) ⟨u237, _, rfl⟩ rfl (by decide) (fun z0 h0 => ?_)
  refine xist2 3 ⟨u237, _, rfl⟩ rfl rfl ?_
  refine xcst 4 (1) ⟨u237, _, rfl⟩ rfl (by decide) (fun z3 h3 => ?_)
  refine xild 5 ⟨u237, _, rfl⟩ rfl rfl ?_
  refine xshl 6 ⟨u237, _, rfl⟩ rfl ?_
  refine xcst 7 (1) ⟨u237, _, rfl⟩ rfl (by decide) (fun z6 h6 => ?_)
  refine xild 8 ⟨u237, _, rfl⟩ rfl rfl ?_
  refine xshl 9 ⟨u237, _, rfl⟩ rfl ?_
  refine xor_ 10 ⟨u237, _, rfl⟩ rfl ?_
  refine xcst 11 (1) ⟨u237, _, rfl⟩ rfl (by decide) (fun z10 h10 => ?_)
  refine xild 12 ⟨u237, _, rfl⟩ rfl rfl ?_
  refine xshl 13 ⟨u237, _, rfl⟩ rfl ?_
  refine xor_ 14 ⟨u237, _, rfl⟩ rfl ?_
  refine xist2 16 ⟨u237, _, rfl⟩ rfl rfl ?_
  refine xcst 17 (0) ⟨u237, _, rfl⟩ rfl (by decide) (fun z16 h16 => ?_)
  refine xist2 19 ⟨u237, _, rfl⟩ rfl rfl ?_
  have e1 := i_shl h3 hx (by omega)
  have e2 := i_shl h6 hy (by omega)
  have e3 := i_or e1.1 e2.1 e1.2 e2.2
  have e4 := i_shl h10 hz (by omega)
  have e5 := i_or e3.1 e4.1 e3.2 e4.2
  refine xpad 3 ?_
  exact l237 hx hy hz e5.1 ha hb hc hab hbc hac hR V 0 0 T hp _ _ _ _ _ hH hP (bFr.refl _ _) (fun _ _ => rfl) hB (by omega) (by omega) (by omega) (by omega) rfl
