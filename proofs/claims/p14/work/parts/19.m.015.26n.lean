/-! ##### 19.m.015.26n ##### -/
section
/-! ===== the reference's systems: triples put, developed ===== -/
/-- the reference's row is a system -/
noncomputable def rdOk (hp : amH) (V : Nat) (T : sT) : Prop := rN hp 67 0 = (V : Int) ∧ sOk V T ∧ (∀ u v, u < 15 → v < 15 → tT hp u v = T u v) ∧ ∀ u v, ¬ (u < 15 ∧ v < 15) → T u v = -1
theorem rd_fr3 {hp : amH} {V : Nat} {T : sT} (h : rdOk hp V T) {a b c : Nat} (ha : a < V) (hb : b < V) (hc : c < V) : fr3 hp a b c ↔ sFree T a b c := by
  have hV := h.2.1.2.1
  unfold fr3
  rw [h.2.2.1 a b (by omega) (by omega), h.2.2.1 b c (by omega) (by omega), h.2.2.1 a c (by omega) (by omega)]
theorem rdOk_fr {hp hp1 : amH} {V : Nat} {T : sT} (h : rdOk hp V T) (e : ∀ i, rN hp1 67 i = rN hp 67 i) : rdOk hp1 V T :=
  ⟨by rw [e]; exact h.1, h.2.1, fun u v hu hv => by unfold tT; rw [e]; exact h.2.2.1 u v hu hv, h.2.2.2⟩
theorem k_rfree {d : Nat} {hp : amH} {R : xQ} {V x y z : Nat} {T : sT} {a b c : Int32} (hH : bHk 84 bTT hp) (hB : rdOk hp V T) (ha : a.toInt = (x : Int)) (hb : b.toInt = (y : Int)) (hc : c.toInt = (z : Int)) (hx : x < V) (hy : y < V) (hz : z < V) (hR : ∀ r : Int32, ((r.toInt = 1 ∧ sFree T x y z) ∨ (r.toInt = 0 ∧ ¬ sFree T x y z)) → R (.inl (some (.int r))) hp) : xK (d + 3) 210 [.ref 66, .int a, .int b, .int c] hp R := by
  have hV := hB.2.1.2.1
  refine k_free hH (by omega) (by omega) (by omega) (by omega) (by omega) (by omega) (fun r h => hR r ?_)
  rw [show a.toInt.toNat = x by omega, show b.toInt.toNat = y by omega, show c.toInt.toNat = z by omega, rd_fr3 hB hx hy hz] at h
  exact h
theorem k_rput {d : Nat} {hp : amH} {R : xQ} {V x y z : Nat} {T : sT} {a b c : Int32} (hH : bHk 84 bTT hp) (hP : P0 hp) (hB : rdOk hp V T) (ha : a.toInt = (x : Int)) (hb : b.toInt = (y : Int)) (hc : c.toInt = (z : Int)) (hx : x < V) (hy : y < V) (hz : z < V) (hxy : ¬ x = y) (hyz : ¬ y = z) (hxz : ¬ x = z) (hf : sFree T x y z)
    (hR : ∀ hp1, bHk 84 bTT hp1 → P0 hp1 → bFr [(67, 999)] hp hp1 → (∀ i, i < 4 → rN hp1 67 i = rN hp 67 i) → rdOk hp1 V (sPut T x y z) → R (.inl none) hp1) : xK (d + 1) 206 [.ref 66, .int a, .int b, .int c] hp R := by
  have hV := hB.2.1.2.1
  have b1 := hB.1
  refine k_put hH hP (by omega) (by omega) (by omega) (by omega) (by omega) (by omega) (by omega) (by omega) (by omega) ?_ (fun hp1 g1 g2 g3 g4 g5 => hR hp1 g1 g2 g3 g4 ⟨by rw [g4 0 (by omega)]; exact b1, sOk_put hB.2.1 hx hy hz hxy hyz hxz hf, fun u v hu hv => ?_, fun u v h => ?_⟩)
  · rw [show a.toInt.toNat = x by omega, show b.toInt.toNat = y by omega, show c.toInt.toNat = z by omega]
    exact (rd_fr3 hB hx hy hz).mpr hf
  · rw [g5 u v hu hv, show a.toInt.toNat = x by omega, show b.toInt.toNat = y by omega, show c.toInt.toNat = z by omega, ha, hb, hc, hB.2.2.1 u v hu hv]
    rfl
  · unfold sPut
    rw [if_neg (by omega)]
    exact hB.2.2.2 u v h
theorem k_rtrn {d : Nat} {hp : amH} {R : xQ} {V x k : Nat} {T : sT} {a b : Int32} (hH : bHk 84 bTT hp) (hP : P0 hp) (hB : rdOk hp V T) (ha : a.toInt = (x : Int)) (hb : b.toInt = (k : Int)) (hx : x < V) (hk : k < V) (hR : ∀ z : Int32, z.toInt = (((x + k) % V : Nat) : Int) → R (.inl (some (.int z))) hp) : xK (d + 1) 233 [.ref 66, .int a, .int b] hp R := by
  have b1 := hB.1
  refine k_turn2 hH hP (by omega) (by omega) (by omega) (by omega) (fun z h => hR z ?_)
  obtain ⟨h1, h2, h3⟩ := h
  rcases Nat.lt_or_ge (x + k) V with g | g
  · rw [Nat.mod_eq_of_lt g]; omega
  · rw [Nat.mod_eq_sub_mod g, Nat.mod_eq_of_lt (by omega)]; omega
theorem l237 {d : Nat} {hp0 : amH} {R : xQ} {V a b c : Nat} {x y z wh : Int32} (hx : x.toInt = (a : Int)) (hy : y.toInt = (b : Int)) (hz : z.toInt = (c : Int)) (hwh : wh.toInt = ((m3 a b c : Nat) : Int)) (ha : a < V) (hb : b < V) (hc : c < V) (hab : ¬ a = b) (hbc : ¬ b = c) (hac : ¬ a = c)
    {X : Option (sT × Nat)} (hR : ∀ (r : Int32) hp1, bHk 84 bTT hp1 → P0 hp1 → bFr [(67, 999)] hp0 hp1 → (∀ i, i < 4 → rN hp1 67 i = rN hp0 67 i) → (match X with
      | none => r.toInt = -1
      | some q => r.toInt = (q.2 : Int) ∧ rdOk hp1 V q.1) → R (.inl (some (.int r))) hp1) :
    ∀ (f k n : Nat) (T : sT) (hp : amH) (m i : Int32) (v7 v8 v9 : Option Value), bHk 84 bTT hp → P0 hp → bFr [(67, 999)] hp0 hp → (∀ i, i < 4 → rN hp 67 i = rN hp0 67 i) → rdOk hp V T → f + k = V → n ≤ k → m.toInt = (n : Int) → i.toInt = (k : Int) → sDv V a b c f k T n = X → xV (d + 4) am_m237 19 [some (.ref 66), some (.int x), some (.int y), some (.int z), some (.int m), some (.int wh), some (.int i), v7, v8, v9] [] hp R := by
  intro f
  induction f with
  | zero =>
    intro k n T hp m i v7 v8 v9 hH hP hF h4 hB hk hn hm hi hX
    have hV := hB.2.1.2.1
    have b1 := hB.1
    have hX : some (T, n) = X := hX
    subst hX
    refine xild2 21 ⟨u237, _, rfl⟩ rfl rfl ?_
    refine xald 22 ⟨u237, _, rfl⟩ rfl rfl ?_
    refine xcall 25 [.ref 66] [.int _] hH ⟨u237, _, rfl⟩ rfl rfl rfl rfl rfl (k_points hH (fun z22 h22 => ⟨_, rfl, ?_⟩))
    refine xcmp_ge 28 ⟨u237, _, rfl⟩ rfl (fun c25 => ?_) (fun c25 => ?_)
    · refine xild2 118 ⟨u237, _, rfl⟩ rfl rfl ?_
      exact xret ⟨u237, _, rfl⟩ rfl (hR _ hp hH hP hF h4 ⟨hm, hB⟩)
    · omega
  | succ f ih =>
    intro k n T hp m i v7 v8 v9 hH hP hF h4 hB hk hn hm hi hX
    have hV := hB.2.1.2.1
    have b1 := hB.1
    have hA := Nat.mod_lt (a + k) (by omega : 0 < V)
    have hBk := Nat.mod_lt (b + k) (by omega : 0 < V)
    have hC := Nat.mod_lt (c + k) (by omega : 0 < V)
    unfold sDv at hX
    refine xild2 21 ⟨u237, _, rfl⟩ rfl rfl ?_
    refine xald 22 ⟨u237, _, rfl⟩ rfl rfl ?_
    refine xcall 25 [.ref 66] [.int _] hH ⟨u237, _, rfl⟩ rfl rfl rfl rfl rfl (k_points hH (fun z22 h22 => ⟨_, rfl, ?_⟩))
    refine xcmp_ge 28 ⟨u237, _, rfl⟩ rfl (fun c25 => ?_) (fun c25 => ?_)
    · omega
    · refine xald 29 ⟨u237, _, rfl⟩ rfl rfl ?_
      refine xild 30 ⟨u237, _, rfl⟩ rfl rfl ?_
      refine xild2 32 ⟨u237, _, rfl⟩ rfl rfl ?_
      refine xcall 35 [.ref 66, .int _, .int _] [] hH ⟨u237, _, rfl⟩ rfl rfl rfl rfl rfl (k_rtrn hH hP hB hx hi (by omega) (by omega) (fun z32 h32 => ⟨_, rfl, ?_⟩))
      refine xist2 37 ⟨u237, _, rfl⟩ rfl rfl ?_
      refine xald 38 ⟨u237, _, rfl⟩ rfl rfl ?_
      refine xild 39 ⟨u237, _, rfl⟩ rfl rfl ?_
      refine xild2 41 ⟨u237, _, rfl⟩ rfl rfl ?_
      refine xcall 44 [.ref 66, .int _, .int _] [] hH ⟨u237, _, rfl⟩ rfl rfl rfl rfl rfl (k_rtrn hH hP hB hy hi (by omega) (by omega) (fun z41 h41 => ⟨_, rfl, ?_⟩))
      refine xist2 46 ⟨u237, _, rfl⟩ rfl rfl ?_
      refine xald 47 ⟨u237, _, rfl⟩ rfl rfl ?_
      refine xild 48 ⟨u237, _, rfl⟩ rfl rfl ?_
      refine xild2 50 ⟨u237, _, rfl⟩ rfl rfl ?_
      refine xcall 53 [.ref 66, .int _, .int _] [] hH ⟨u237, _, rfl⟩ rfl rfl rfl rfl rfl (k_rtrn hH hP hB hz hi (by omega) (by omega) (fun z50 h50 => ⟨_, rfl, ?_⟩))
      refine xist2 55 ⟨u237, _, rfl⟩ rfl rfl ?_
      refine xild2 57 ⟨u237, _, rfl⟩ rfl rfl ?_
      refine xif_le 60 ⟨u237, _, rfl⟩ rfl (fun c57 => ?_) (fun c57 => ?_)
      · rw [if_neg (by omega)] at hX
        refine xald 83 ⟨u237, _, rfl⟩ rfl rfl ?_
        refine xild2 85 ⟨u237, _, rfl⟩ rfl rfl ?_
        refine xild2 87 ⟨u237, _, rfl⟩ rfl rfl ?_
        refine xild2 89 ⟨u237, _, rfl⟩ rfl rfl ?_
        refine xcall 92 [.ref 66, .int _, .int _, .int _] [] hH ⟨u237, _, rfl⟩ rfl rfl rfl rfl rfl (k_rfree hH hB h32 h41 h50 hA hBk hC (fun z89 h89 => ⟨_, rfl, ?_⟩))
        refine xif_ne 95 ⟨u237, _, rfl⟩ rfl (fun c92 => ?_) (fun c92 => ?_)
        · have fr : sFree T ((a + k) % V) ((b + k) % V) ((c + k) % V) := by rcases h89 with g | g; exact g.2; omega
          rw [if_pos fr] at hX
          refine xald 98 ⟨u237, _, rfl⟩ rfl rfl ?_
          refine xild2 100 ⟨u237, _, rfl⟩ rfl rfl ?_
          refine xild2 102 ⟨u237, _, rfl⟩ rfl rfl ?_
          refine xild2 104 ⟨u237, _, rfl⟩ rfl rfl ?_
          refine xcall 107 [.ref 66, .int _, .int _, .int _] [] hH ⟨u237, _, rfl⟩ rfl rfl rfl rfl rfl (k_rput hH hP hB h32 h41 h50 hA hBk hC (md_ne ha hb hab) (md_ne hb hc hbc) (md_ne ha hc hac) fr (fun hp104 hH104 hP104 F104 E104 B104 => ⟨_, rfl, ?_⟩))
          refine xinc 110 (1) ⟨u237, _, rfl⟩ rfl rfl rfl (by decide) (by omega) (by omega) (fun z107 h107 => ?_)
          refine xinc 113 (1) ⟨u237, _, rfl⟩ rfl rfl rfl (by decide) (by omega) (by omega) (fun z110 h110 => ?_)
          refine xgoto ⟨u237, _, rfl⟩ ?_
          exact ih (k + 1) (n + 1) _ hp104 _ _ _ _ _ hH104 hP104 (hF.trans F104) (fun i hi => (E104 i hi).trans (h4 i hi)) B104 (by omega) (by omega) (by omega) (by omega) hX
        · refine xcst 96 (-1) ⟨u237, _, rfl⟩ rfl (by decide) (fun z95 h95 => ?_)
          have nf : ¬ sFree T ((a + k) % V) ((b + k) % V) ((c + k) % V) := by rcases h89 with g | g; omega; exact g.2
          rw [if_neg nf] at hX
          subst hX
          exact xret ⟨u237, _, rfl⟩ rfl (hR _ hp hH hP hF h4 h95)
      · refine xcst 61 (1) ⟨u237, _, rfl⟩ rfl (by decide) (fun z60 h60 => ?_)
        refine xild2 63 ⟨u237, _, rfl⟩ rfl rfl ?_
        refine xshl 64 ⟨u237, _, rfl⟩ rfl ?_
        refine xcst 65 (1) ⟨u237, _, rfl⟩ rfl (by decide) (fun z64 h64 => ?_)
        refine xild2 67 ⟨u237, _, rfl⟩ rfl rfl ?_
        refine xshl 68 ⟨u237, _, rfl⟩ rfl ?_
        refine xor_ 69 ⟨u237, _, rfl⟩ rfl ?_
        refine xcst 70 (1) ⟨u237, _, rfl⟩ rfl (by decide) (fun z69 h69 => ?_)
        refine xild2 72 ⟨u237, _, rfl⟩ rfl rfl ?_
        refine xshl 73 ⟨u237, _, rfl⟩ rfl ?_
        refine xor_ 74 ⟨u237, _, rfl⟩ rfl ?_
        refine xild2 76 ⟨u237, _, rfl⟩ rfl rfl ?_
        have e1 := i_shl h60 h32 (by omega)
        have e2 := i_shl h64 h41 (by omega)
        have e3 := i_or e1.1 e2.1 e1.2 e2.2
        have e4 := i_shl h69 h50 (by omega)
        have e5 := i_or e3.1 e4.1 e3.2 e4.2
        have eM : ((z60 <<< (z32 &&& 31) ||| z64 <<< (z41 &&& 31)) ||| z69 <<< (z50 &&& 31)).toInt = ((m3 ((a + k) % V) ((b + k) % V) ((c + k) % V) : Nat) : Int) := e5.1
        refine xcmp_ne 79 ⟨u237, _, rfl⟩ rfl (fun c76 => ?_) (fun c76 => ?_)
        · rw [if_neg (fun z => by omega)] at hX
          refine xald 83 ⟨u237, _, rfl⟩ rfl rfl ?_
          refine xild2 85 ⟨u237, _, rfl⟩ rfl rfl ?_
          refine xild2 87 ⟨u237, _, rfl⟩ rfl rfl ?_
          refine xild2 89 ⟨u237, _, rfl⟩ rfl rfl ?_
          refine xcall 92 [.ref 66, .int _, .int _, .int _] [] hH ⟨u237, _, rfl⟩ rfl rfl rfl rfl rfl (k_rfree hH hB h32 h41 h50 hA hBk hC (fun z89 h89 => ⟨_, rfl, ?_⟩))
          refine xif_ne 95 ⟨u237, _, rfl⟩ rfl (fun c92 => ?_) (fun c92 => ?_)
          · have fr : sFree T ((a + k) % V) ((b + k) % V) ((c + k) % V) := by rcases h89 with g | g; exact g.2; omega
            rw [if_pos fr] at hX
            refine xald 98 ⟨u237, _, rfl⟩ rfl rfl ?_
            refine xild2 100 ⟨u237, _, rfl⟩ rfl rfl ?_
            refine xild2 102 ⟨u237, _, rfl⟩ rfl rfl ?_
            refine xild2 104 ⟨u237, _, rfl⟩ rfl rfl ?_
            refine xcall 107 [.ref 66, .int _, .int _, .int _] [] hH ⟨u237, _, rfl⟩ rfl rfl rfl rfl rfl (k_rput hH hP hB h32 h41 h50 hA hBk hC (md_ne ha hb hab) (md_ne hb hc hbc) (md_ne ha hc hac) fr (fun hp104 hH104 hP104 F104 E104 B104 => ⟨_, rfl, ?_⟩))
            refine xinc 110 (1) ⟨u237, _, rfl⟩ rfl rfl rfl (by decide) (by omega) (by omega) (fun z107 h107 => ?_)
            refine xinc 113 (1) ⟨u237, _, rfl⟩ rfl rfl rfl (by decide) (by omega) (by omega) (fun z110 h110 => ?_)
            refine xgoto ⟨u237, _, rfl⟩ ?_
            exact ih (k + 1) (n + 1) _ hp104 _ _ _ _ _ hH104 hP104 (hF.trans F104) (fun i hi => (E104 i hi).trans (h4 i hi)) B104 (by omega) (by omega) (by omega) (by omega) hX
          · refine xcst 96 (-1) ⟨u237, _, rfl⟩ rfl (by decide) (fun z95 h95 => ?_)
            have nf : ¬ sFree T ((a + k) % V) ((b + k) % V) ((c + k) % V) := by rcases h89 with g | g; omega; exact g.2
            rw [if_neg nf] at hX
            subst hX
            exact xret ⟨u237, _, rfl⟩ rfl (hR _ hp hH hP hF h4 h95)
        · refine xild2 81 ⟨u237, _, rfl⟩ rfl rfl ?_
          rw [if_pos ⟨by omega, by omega⟩] at hX
          subst hX
          exact xret ⟨u237, _, rfl⟩ rfl (hR _ hp hH hP hF h4 ⟨hm, hB⟩)
theorem k_rdvs {d : Nat} {hp : amH} {R : xQ} {V a b c : Nat} {T : sT} {x y z : Int32} (hH : bHk 84 bTT hp) (hP : P0 hp) (hB : rdOk hp V T) (hx : x.toInt = (a : Int)) (hy : y.toInt = (b : Int)) (hz : z.toInt = (c : Int)) (ha : a < V) (hb : b < V) (hc : c < V) (hab : ¬ a = b) (hbc : ¬ b = c) (hac : ¬ a = c)
    (hR : ∀ (r : Int32) hp1, bHk 84 bTT hp1 → P0 hp1 → bFr [(67, 999)] hp hp1 → (∀ i, i < 4 → rN hp1 67 i = rN hp 67 i) → (match sDv V a b c V 0 T 0 with
      | none => r.toInt = -1
      | some q => r.toInt = (q.2 : Int) ∧ rdOk hp1 V q.1) → R (.inl (some (.int r))) hp1) : xK (d + 4) 237 [.ref 66, .int x, .int y, .int z] hp R := by
  have hV := hB.2.1.2.1
  refine xin (M := am_m237) rfl rfl rfl ?_
  refine xcst 1 (0) ⟨u237, _, rfl⟩ rfl (by decide) (fun z0 h0 => ?_)
  refine xist2 3 ⟨u237, _, rfl⟩ rfl rfl ?_
  refine xcst 4 (1) ⟨u237, _, rfl⟩ rfl (by decide) (fun z3 h3 => ?_)
  refine xild 5 ⟨u237, _, rfl⟩ rfl rfl ?_
  refine xshl 6 ⟨u237, _, rfl⟩ rfl ?_
  refine xcst 7 (1) ⟨u237, _, rfl⟩ rfl (by decide) (fun z6 h6 => ?_)
  refine xild 8 ⟨u237, _, rfl⟩ rfl rfl ?_
  refine xshl 9 ⟨u237, _, rfl⟩ rfl ?_
  refine xor_ 10 ⟨u237, _, rfl⟩ rfl ?_
  refine xcst 11 (1) ⟨u237, _, rfl⟩ rfl (by decide) (fun z10 h10 => ?_)
  refine xild 12 ⟨u237, _, rfl⟩ rfl rfl ?_
  refine xshl 13 ⟨u237, _, rfl⟩ rfl ?_
  refine xor_ 14 ⟨u237, _, rfl⟩ rfl ?_
  refine xist2 16 ⟨u237, _, rfl⟩ rfl rfl ?_
  refine xcst 17 (0) ⟨u237, _, rfl⟩ rfl (by decide) (fun z16 h16 => ?_)
  refine xist2 19 ⟨u237, _, rfl⟩ rfl rfl ?_
  have e1 := i_shl h3 hx (by omega)
  have e2 := i_shl h6 hy (by omega)
  have e3 := i_or e1.1 e2.1 e1.2 e2.2
  have e4 := i_shl h10 hz (by omega)
  have e5 := i_or e3.1 e4.1 e3.2 e4.2
  refine xpad 3 ?_
  exact l237 hx hy hz e5.1 ha hb hc hab hbc hac hR V 0 0 T hp _ _ _ _ _ hH hP (bFr.refl _ _) (fun _ _ => rfl) hB (by omega) (by omega) (by omega) (by omega) rfl
end
/-! ##### 19.m.016.26o ##### -/
section
/-! ===== the reference reads a statement ===== -/
theorem P0_tk {hp hp1 : amH} (hF : bFr wTK hp hp1) (hP : P0 hp) : P0 hp1 := P0_W (W := wTK) (by decide) hF hP
theorem rB_tk {hp hp1 : amH} (hF : bFr wTK hp hp1) : rB hp1 = rB hp := rB_F hF rfl (fun _ => rfl)
theorem rB_rs {hp hp1 : amH} (hF : bFr wRS hp hp1) : rB hp1 = rB hp := rB_F hF rfl (fun _ => rfl)
noncomputable def rSr (y : tY) (V : Nat) (T : sT) (s : Nat) (z : Int) (hp hp1 : amH) : Prop := match tSt y V T s with
  | .inl e => z = 0 ∧ rN hp1 66 24 = e.1 ∧ rN hp1 66 25 = (e.2 : Int)
  | .inr q => z = 1 ∧ rdOk hp1 V q.1 ∧ (∃ s4, rT hp1 y s4 ∧ q.2 = tN y s4 ∧ (s4 : Int) ≤ rN hp1 66 21) ∧ rN hp1 66 24 = 0 ∧ rN hp1 66 25 = rN hp 66 25 ∧ ∀ i, 1 ≤ i → i < 4 → rN hp1 67 i = rN hp 67 i
theorem rSr_e {y : tY} {V : Nat} {T : sT} {s : Nat} {z : Int} {hp hp1 : amH} {c : Int} {q : Nat} (e : tSt y V T s = .inl (c, q)) (hz : z = 0) (h1 : rN hp1 66 24 = c) (h2 : rN hp1 66 25 = (q : Int)) : rSr y V T s z hp hp1 := by
  unfold rSr
  rw [e]
  exact ⟨hz, h1, h2⟩
theorem rSr_s {y : tY} {V : Nat} {T : sT} {s : Nat} {z : Int} {hp hp1 : amH} {T1 : sT} {q s4 : Nat} (e : tSt y V T s = .inr (T1, q)) (hz : z = 1) (h1 : rdOk hp1 V T1) (h2 : rT hp1 y s4) (h2b : q = tN y s4) (h2c : (s4 : Int) ≤ rN hp1 66 21) (h3 : rN hp1 66 24 = 0) (h4 : rN hp1 66 25 = rN hp 66 25) (h5 : ∀ i, 1 ≤ i → i < 4 → rN hp1 67 i = rN hp 67 i) : rSr y V T s z hp hp1 := by
  unfold rSr
  rw [e]
  exact ⟨hz, h1, ⟨s4, h2, h2b, h2c⟩, h3, h4, h5⟩
theorem m247 {d : Nat} {hp : amH} {R : xQ} {y : tY} {s V kk : Nat} {T : sT} {pre : List Int} {g k : Int32} (hH : bHk 84 bTT hp) (hP : P0 hp) (Y : rB hp = y) (hT : rT hp y s) (hs : (s : Int) ≤ rN hp 66 21) (hB : rdOk hp V T) (h0 : rN hp 66 24 = 0) (hl : pre.length = kk) (hpre : ∀ k, k < kk → rN hp 81 k = pre.getD k 0) (hk : k.toInt = (kk : Int)) (hk3 : kk < 3)
    (hE : ∀ (z : Int32) hp1, ¬ tNum y s 0 ((V : Int) - 1) pre = 0 → z.toInt = 0 → bHk 84 bTT hp1 → bFr wTK hp hp1 → rN hp1 66 24 = tNum y s 0 ((V : Int) - 1) pre → rN hp1 66 25 = (s : Int) → R (.inl (some (.int z))) hp1)
    (hN : ∀ (k1 : Int32) hp1, tNum y s 0 ((V : Int) - 1) pre = 0 → bHk 84 bTT hp1 → bFr wTK hp hp1 → rT hp1 y (tN y s) → rN hp1 66 24 = 0 → rN hp1 66 25 = rN hp 66 25 → (∀ k, k < kk → rN hp1 81 k = rN hp 81 k) → rN hp1 81 kk = tV y s → k1.toInt = (kk : Int) + 1 → xV (d + 5) am_m247 6 [some (.ref 66), some (.int g), some (.int k1)] [] hp1 R) :
    xV (d + 5) am_m247 6 [some (.ref 66), some (.int g), some (.int k)] [] hp R := by
  have bV := hB.2.1.2.1
  have bV1 := hB.2.1.1
  have bP := hB.1
  refine xild 7 ⟨u247, _, rfl⟩ rfl rfl ?_
  refine xcst 8 (3) ⟨u247, _, rfl⟩ rfl (by decide) (fun z7 h7 => ?_)
  refine xcmp_ge 11 ⟨u247, _, rfl⟩ rfl (fun c8 => ?_) (fun c8 => ?_)
  · omega
  · refine xald 12 ⟨u247, _, rfl⟩ rfl rfl ?_
    refine xild 13 ⟨u247, _, rfl⟩ rfl rfl ?_
    refine xcst 14 (0) ⟨u247, _, rfl⟩ rfl (by decide) (fun z13 h13 => ?_)
    refine xald 15 ⟨u247, _, rfl⟩ rfl rfl ?_
    refine xcall 18 [.ref 66] [.int _, .int _, .ref 66] hH ⟨u247, _, rfl⟩ rfl rfl rfl rfl rfl (k_points hH (fun z15 h15 => ⟨_, rfl, ?_⟩))
    refine xcst 19 (1) ⟨u247, _, rfl⟩ rfl (by decide) (fun z18 h18 => ?_)
    refine xsub 20 _ ⟨u247, _, rfl⟩ rfl rfl (by omega) (by omega) (fun z19 h19 => ?_)
    refine xcall 23 [.ref 66, .int _, .int _, .int _] [] hH ⟨u247, _, rfl⟩ rfl rfl rfl rfl rfl (k_tkp hH Y hT hs h0 hk (by omega) hl hpre (fun z20 hp20 hH20 F20 r20 => ⟨_, rfl, ?_⟩))
    rw [h13, show z19.toInt = (V : Int) - 1 by omega] at r20
    refine xif_ne 26 ⟨u247, _, rfl⟩ rfl (fun c23 => ?_) (fun c23 => ?_)
    · refine xinc 31 (1) ⟨u247, _, rfl⟩ rfl rfl rfl (by decide) (by omega) (by omega) (fun z28 h28 => ?_)
      refine xgoto ⟨u247, _, rfl⟩ ?_
      rcases r20 with ⟨r1, r2, r3, r4, r5, r6, r7⟩ | r
      · exact hN _ hp20 r1 hH20 F20 r5 r6 r7 r4 r3 (by omega)
      · omega
    · refine xcst 27 (0) ⟨u247, _, rfl⟩ rfl (by decide) (fun z26 h26 => ?_)
      rcases r20 with r | ⟨r1, r2, r3, r4⟩
      · omega
      · exact xretB ⟨u247, _, rfl⟩ rfl (by omega) (hE _ hp20 r1 (by omega) hH20 F20 r3 r4)
theorem rT_67 {hp hp1 : amH} {y : tY} {s : Nat} (h : rT hp y s) (F : bFr [(67, 999)] hp hp1) : rT hp1 y s := by
  unfold rT
  rw [show rN hp1 66 27 = rN hp 66 27 from r_fr F rfl, show rN hp1 66 26 = rN hp 66 26 from r_fr F rfl, show rN hp1 66 29 = rN hp 66 29 from r_fr F rfl, show rN hp1 66 28 = rN hp 66 28 from r_fr F rfl]
  exact h
/-- what is developed begins with the triple itself -/
theorem dv_fr {V a b c : Nat} {T : sT} (hV : 0 < V) (ha : a < V) (hb : b < V) (hc : c < V) (h : ¬ sDv V a b c V 0 T 0 = none) : sFree T a b c := by
  obtain ⟨f, rfl⟩ : ∃ f, V = f + 1 := ⟨V - 1, by omega⟩
  unfold sDv at h
  rw [if_neg (by omega)] at h
  simp only [Nat.add_zero] at h
  rw [Nat.mod_eq_of_lt ha, Nat.mod_eq_of_lt hb, Nat.mod_eq_of_lt hc] at h
  apply Classical.byContradiction
  intro z
  rw [if_neg z] at h
  exact h rfl
theorem f247 {d : Nat} {hp0 hp : amH} {R : xQ} {y : tY} {s V : Nat} {T : sT} {g k : Int32} {v1 v2 v3 : Nat} (hH : bHk 84 bTT hp) (hP : P0 hp) (hF : bFr wRS hp0 hp) (hk2 : rN hp 66 25 = rN hp0 66 25) (hw4 : ∀ i, 1 ≤ i → i < 4 → rN hp 67 i = rN hp0 67 i) (Y : rB hp = y) (hT : rT hp y (tN y (tN y (tN y (tN y s))))) (hs : ((tN y (tN y (tN y (tN y s))) : Nat) : Int) ≤ rN hp 66 21) (hB : rdOk hp V T) (h0 : rN hp 66 24 = 0) (hg : tGo y V s) (e1 : tV y (tN y s) = (v1 : Int)) (e2 : tV y (tN y (tN y s)) = (v2 : Int)) (e3 : tV y (tN y (tN y (tN y s))) = (v3 : Int)) (l1 : v1 < V) (l2 : v2 < V) (l3 : v3 < V) (n12 : ¬ v1 = v2) (n23 : ¬ v2 = v3) (n13 : ¬ v1 = v3)
    (q1 : rN hp 81 0 = (v1 : Int)) (q2 : rN hp 81 1 = (v2 : Int)) (q3 : rN hp 81 2 = (v3 : Int)) (hk : k.toInt = 3) (hdv : (g.toInt = 1 ∧ tWd y s wDev = true) ∨ (g.toInt = 0 ∧ tWd y s wTri = true))
    (hR : ∀ (z : Int32) hp1, bHk 84 bTT hp1 → P0 hp1 → bFr wRS hp0 hp1 → rSr y V T s z.toInt hp0 hp1 → R (.inl (some (.int z))) hp1) :
    xV (d + 5) am_m247 6 [some (.ref 66), some (.int g), some (.int k)] [] hp R := by
  have bV := hB.2.1.2.1
  have K0 := hT.2.2.1
  have hTs := hT.1
  have go := tSt_go (T := T) hg
  rw [e1, e2, e3, Int.toNat_natCast, Int.toNat_natCast, Int.toNat_natCast] at go
  refine xild 7 ⟨u247, _, rfl⟩ rfl rfl ?_
  refine xcst 8 (3) ⟨u247, _, rfl⟩ rfl (by decide) (fun z7 h7 => ?_)
  refine xcmp_ge 11 ⟨u247, _, rfl⟩ rfl (fun c8 => ?_) (fun c8 => ?_)
  · refine xald 35 ⟨u247, _, rfl⟩ rfl rfl ?_
    refine xgetI 38 hH ⟨u247, _, rfl⟩ rfl rfl (fun z35 h35 => ?_)
    refine xcst 39 (3) ⟨u247, _, rfl⟩ rfl (by decide) (fun z38 h38 => ?_)
    refine xcmp_eq 42 ⟨u247, _, rfl⟩ rfl (fun c39 => ?_) (fun c39 => ?_)
    · have k3 : tK y (tN y (tN y (tN y (tN y s)))) = 3 := by omega
      rw [if_neg (fun z => z k3)] at go
      refine xild 49 ⟨u247, _, rfl⟩ rfl rfl ?_
      refine xif_eq 52 ⟨u247, _, rfl⟩ rfl (fun c49 => ?_) (fun c49 => ?_)
      · have wd : tWd y s wTri = true := by rcases hdv with g | g; omega; exact g.2
        refine xald 93 ⟨u247, _, rfl⟩ rfl rfl ?_
        refine xald 94 ⟨u247, _, rfl⟩ rfl rfl ?_
        refine xgetR 97 81 hH ⟨u247, _, rfl⟩ rfl rfl ?_
        refine xcst 98 (0) ⟨u247, _, rfl⟩ rfl (by decide) (fun z97 h97 => ?_)
        refine xiald 99 (z97).toInt.toNat hH ⟨u247, _, rfl⟩ rfl (by decide) rfl (by omega) (by omega) (fun z98 h98 => ?_)
        refine xald 100 ⟨u247, _, rfl⟩ rfl rfl ?_
        refine xgetR 103 81 hH ⟨u247, _, rfl⟩ rfl rfl ?_
        refine xcst 104 (1) ⟨u247, _, rfl⟩ rfl (by decide) (fun z103 h103 => ?_)
        refine xiald 105 (z103).toInt.toNat hH ⟨u247, _, rfl⟩ rfl (by decide) rfl (by omega) (by omega) (fun z104 h104 => ?_)
        refine xald 106 ⟨u247, _, rfl⟩ rfl rfl ?_
        refine xgetR 109 81 hH ⟨u247, _, rfl⟩ rfl rfl ?_
        refine xcst 110 (2) ⟨u247, _, rfl⟩ rfl (by decide) (fun z109 h109 => ?_)
        refine xiald 111 (z109).toInt.toNat hH ⟨u247, _, rfl⟩ rfl (by decide) rfl (by omega) (by omega) (fun z110 h110 => ?_)
        refine xcall 114 [.ref 66, .int _, .int _, .int _] [] hH ⟨u247, _, rfl⟩ rfl rfl rfl rfl rfl (k_rfree hH hB (by rw [h98, show z97.toInt.toNat = 0 by omega]; exact q1) (by rw [h104, show z103.toInt.toNat = 1 by omega]; exact q2) (by rw [h110, show z109.toInt.toNat = 2 by omega]; exact q3) l1 l2 l3 (fun z111 h111 => ⟨_, rfl, ?_⟩))
        refine xif_ne 117 ⟨u247, _, rfl⟩ rfl (fun c114 => ?_) (fun c114 => ?_)
        · have fr : sFree T v1 v2 v3 := by rcases h111 with g | g; exact g.2; omega
          rw [if_neg (fun z => z fr), if_pos wd] at go
          refine xald 124 ⟨u247, _, rfl⟩ rfl rfl ?_
          refine xald 125 ⟨u247, _, rfl⟩ rfl rfl ?_
          refine xgetR 128 81 hH ⟨u247, _, rfl⟩ rfl rfl ?_
          refine xcst 129 (0) ⟨u247, _, rfl⟩ rfl (by decide) (fun z128 h128 => ?_)
          refine xiald 130 (z128).toInt.toNat hH ⟨u247, _, rfl⟩ rfl (by decide) rfl (by omega) (by omega) (fun z129 h129 => ?_)
          refine xald 131 ⟨u247, _, rfl⟩ rfl rfl ?_
          refine xgetR 134 81 hH ⟨u247, _, rfl⟩ rfl rfl ?_
          refine xcst 135 (1) ⟨u247, _, rfl⟩ rfl (by decide) (fun z134 h134 => ?_)
          refine xiald 136 (z134).toInt.toNat hH ⟨u247, _, rfl⟩ rfl (by decide) rfl (by omega) (by omega) (fun z135 h135 => ?_)
          refine xald 137 ⟨u247, _, rfl⟩ rfl rfl ?_
          refine xgetR 140 81 hH ⟨u247, _, rfl⟩ rfl rfl ?_
          refine xcst 141 (2) ⟨u247, _, rfl⟩ rfl (by decide) (fun z140 h140 => ?_)
          refine xiald 142 (z140).toInt.toNat hH ⟨u247, _, rfl⟩ rfl (by decide) rfl (by omega) (by omega) (fun z141 h141 => ?_)
          refine xcall 145 [.ref 66, .int _, .int _, .int _] [] hH ⟨u247, _, rfl⟩ rfl rfl rfl rfl rfl (k_rput hH hP hB (by rw [h129, show z128.toInt.toNat = 0 by omega]; exact q1) (by rw [h135, show z134.toInt.toNat = 1 by omega]; exact q2) (by rw [h141, show z140.toInt.toNat = 2 by omega]; exact q3) l1 l2 l3 n12 n23 n13 fr (fun hp142 hH142 hP142 F142 E142 B142 => ⟨_, rfl, ?_⟩))
          refine xcst 146 (1) ⟨u247, _, rfl⟩ rfl (by decide) (fun z145 h145 => ?_)
          exact xretB ⟨u247, _, rfl⟩ rfl (by omega) (hR _ hp142 hH142 hP142 (hF.trans (bFr_sub F142 (by decide))) (rSr_s go (by omega) B142 (rT_67 hT F142) rfl (by rw [show rN hp142 66 21 = rN hp 66 21 from r_fr F142 rfl]; exact hs) (by rw [show rN hp142 66 24 = rN hp 66 24 from r_fr F142 rfl]; exact h0) (by rw [show rN hp142 66 25 = rN hp 66 25 from r_fr F142 rfl]; exact hk2) (fun i i1 i2 => (E142 i i2).trans (hw4 i i1 i2))))
        · have fr : ¬ sFree T v1 v2 v3 := by rcases h111 with g | g; omega; exact g.2
          rw [if_pos fr] at go
          refine xald 118 ⟨u247, _, rfl⟩ rfl rfl ?_
          refine xcst 119 (3) ⟨u247, _, rfl⟩ rfl (by decide) (fun z118 h118 => ?_)
          refine xcall 122 [.ref 66, .int _] [] hH ⟨u247, _, rfl⟩ rfl rfl rfl rfl rfl (k_rf hH h0 (fun z119 hp119 Z119 hH119 F119 A119 B119 => ⟨_, rfl, ?_⟩))
          exact xretB ⟨u247, _, rfl⟩ rfl (by omega) (hR _ hp119 hH119 (P0_tk (bFr_sub F119 (by decide)) hP) (hF.trans (bFr_sub F119 (by decide))) (rSr_e go (by omega) (by omega) (by omega)))
      · have wd : tWd y s wDev = true := by rcases hdv with g | g; exact g.2; omega
        refine xald 53 ⟨u247, _, rfl⟩ rfl rfl ?_
        refine xald 54 ⟨u247, _, rfl⟩ rfl rfl ?_
        refine xgetR 57 81 hH ⟨u247, _, rfl⟩ rfl rfl ?_
        refine xcst 58 (0) ⟨u247, _, rfl⟩ rfl (by decide) (fun z57 h57 => ?_)
        refine xiald 59 (z57).toInt.toNat hH ⟨u247, _, rfl⟩ rfl (by decide) rfl (by omega) (by omega) (fun z58 h58 => ?_)
        refine xald 60 ⟨u247, _, rfl⟩ rfl rfl ?_
        refine xgetR 63 81 hH ⟨u247, _, rfl⟩ rfl rfl ?_
        refine xcst 64 (1) ⟨u247, _, rfl⟩ rfl (by decide) (fun z63 h63 => ?_)
        refine xiald 65 (z63).toInt.toNat hH ⟨u247, _, rfl⟩ rfl (by decide) rfl (by omega) (by omega) (fun z64 h64 => ?_)
        refine xald 66 ⟨u247, _, rfl⟩ rfl rfl ?_
        refine xgetR 69 81 hH ⟨u247, _, rfl⟩ rfl rfl ?_
        refine xcst 70 (2) ⟨u247, _, rfl⟩ rfl (by decide) (fun z69 h69 => ?_)
        refine xiald 71 (z69).toInt.toNat hH ⟨u247, _, rfl⟩ rfl (by decide) rfl (by omega) (by omega) (fun z70 h70 => ?_)
        refine xcall 74 [.ref 66, .int _, .int _, .int _] [] hH ⟨u247, _, rfl⟩ rfl rfl rfl rfl rfl (k_rdvs hH hP hB (by rw [h58, show z57.toInt.toNat = 0 by omega]; exact q1) (by rw [h64, show z63.toInt.toNat = 1 by omega]; exact q2) (by rw [h70, show z69.toInt.toNat = 2 by omega]; exact q3) l1 l2 l3 n12 n23 n13 (fun z71 hp71 hH71 hP71 F71 E71 r71 => ⟨_, rfl, ?_⟩))
        refine xcst 75 (-1) ⟨u247, _, rfl⟩ rfl (by decide) (fun z74 h74 => ?_)
        refine xcmp_ne 78 ⟨u247, _, rfl⟩ rfl (fun c75 => ?_) (fun c75 => ?_)
        · have fr : sFree T v1 v2 v3 := dv_fr (by omega : 0 < V) l1 l2 l3 (fun e => by rw [e] at r71; omega)
          rw [if_neg (fun z => z fr), if_neg (fun z => tWd_ne wd z)] at go
          obtain ⟨q, hq, B71⟩ : ∃ q, sDv V v1 v2 v3 V 0 T 0 = some q ∧ rdOk hp71 V q.1 := by cases e : sDv V v1 v2 v3 V 0 T 0 with
            | none => rw [e] at r71; omega
            | some q => rw [e] at r71; exact ⟨q, rfl, r71.2⟩
          rw [hq] at go
          refine xcst 87 (1) ⟨u247, _, rfl⟩ rfl (by decide) (fun z86 h86 => ?_)
          refine xgoto ⟨u247, _, rfl⟩ ?_
          exact xretB ⟨u247, _, rfl⟩ rfl (by omega) (hR _ hp71 hH71 hP71 (hF.trans (bFr_sub F71 (by decide))) (rSr_s go (by omega) B71 (rT_67 hT F71) rfl (by rw [show rN hp71 66 21 = rN hp 66 21 from r_fr F71 rfl]; exact hs) (by rw [show rN hp71 66 24 = rN hp 66 24 from r_fr F71 rfl]; exact h0) (by rw [show rN hp71 66 25 = rN hp 66 25 from r_fr F71 rfl]; exact hk2) (fun i i1 i2 => (E71 i i2).trans (hw4 i i1 i2))))
        · have hh : sDv V v1 v2 v3 V 0 T 0 = none := by cases e : sDv V v1 v2 v3 V 0 T 0 with
            | none => rfl
            | some q => rw [e] at r71; omega
          refine xald 79 ⟨u247, _, rfl⟩ rfl rfl ?_
          refine xcst 80 (3) ⟨u247, _, rfl⟩ rfl (by decide) (fun z79 h79 => ?_)
          refine xcall 83 [.ref 66, .int _] [] hH71 ⟨u247, _, rfl⟩ rfl rfl rfl rfl rfl (k_rf hH71 (by rw [show rN hp71 66 24 = rN hp 66 24 from r_fr F71 rfl]; exact h0) (fun z80 hp80 Z80 hH80 F80 A80 B80 => ⟨_, rfl, ?_⟩))
          refine xif_eq 86 ⟨u247, _, rfl⟩ rfl (fun c83 => ?_) (fun c83 => ?_)
          · have go : tSt y V T s = .inl (3, tN y (tN y (tN y (tN y s)))) := by rw [go]; split; rfl; rw [if_neg (fun z => tWd_ne wd z), hh]
            refine xcst 91 (0) ⟨u247, _, rfl⟩ rfl (by decide) (fun z90 h90 => ?_)
            exact xretB ⟨u247, _, rfl⟩ rfl (by omega) (hR _ hp80 hH80 (P0_tk (bFr_sub F80 (by decide)) hP71) ((hF.trans (bFr_sub F71 (by decide))).trans (bFr_sub F80 (by decide))) (rSr_e go (by omega) (by omega) (by rw [B80, show rN hp71 66 27 = rN hp 66 27 from r_fr F71 rfl]; exact hTs)))
          · omega
    · refine xald 43 ⟨u247, _, rfl⟩ rfl rfl ?_
      refine xcst 44 (1) ⟨u247, _, rfl⟩ rfl (by decide) (fun z43 h43 => ?_)
      refine xcall 47 [.ref 66, .int _] [] hH ⟨u247, _, rfl⟩ rfl rfl rfl rfl rfl (k_rf hH h0 (fun z44 hp44 Z44 hH44 F44 A44 B44 => ⟨_, rfl, ?_⟩))
      exact xretB ⟨u247, _, rfl⟩ rfl (by omega) (hR _ hp44 hH44 (P0_tk (bFr_sub F44 (by decide)) hP) (hF.trans (bFr_sub F44 (by decide))) (rSr_e (by rw [go, if_pos (fun z => c39 (by omega))]) (by omega) (by omega) (by omega)))
  · omega
end
/-! ##### 19.m.017.26p ##### -/
section
/-! ===== the reference reads its text ===== -/
theorem rSr_h {y : tY} {V : Nat} {T : sT} {s : Nat} {z : Int} {hp hp0 hp1 : amH} (h : rSr y V T s z hp hp1) (e2 : rN hp 66 25 = rN hp0 66 25) (e3 : ∀ i, 1 ≤ i → i < 4 → rN hp 67 i = rN hp0 67 i) : rSr y V T s z hp0 hp1 := by
  unfold rSr at h ⊢
  rw [e2] at h
  split
  · next e => rw [e] at h; exact h
  · next q e =>
    rw [e] at h
    exact ⟨h.1, h.2.1, h.2.2.1, h.2.2.2.1, h.2.2.2.2.1, fun i i1 i2 => (h.2.2.2.2.2 i i1 i2).trans (e3 i i1 i2)⟩
theorem t247 {d : Nat} {hp : amH} {R : xQ} {y : tY} {s V : Nat} {T : sT} {g k : Int32} (hH : bHk 84 bTT hp) (hP : P0 hp) (Y : rB hp = y) (hT : rT hp y (tN y s)) (hs : (s : Int) ≤ rN hp 66 21) (hB : rdOk hp V T) (h0 : rN hp 66 24 = 0) (hk : k.toInt = 0) (hwd : tWd y s wDev = true ∨ tWd y s wTri = true) (hdv : (g.toInt = 1 ∧ tWd y s wDev = true) ∨ (g.toInt = 0 ∧ tWd y s wTri = true))
    (hR : ∀ (z : Int32) hp1, bHk 84 bTT hp1 → P0 hp1 → bFr wRS hp hp1 → rSr y V T s z.toInt hp hp1 → R (.inl (some (.int z))) hp1) :
    xV (d + 5) am_m247 6 [some (.ref 66), some (.int g), some (.int k)] [] hp R := by
  have hok : tOk (rN hp 66 21).toNat y := by rw [← Y]; exact rB_ok hH
  have b0 := b21 hH
  have bV := hB.2.1.2.1
  have u1 := tN_le hok (s := s) (by omega)
  have u2 := tN_le hok (s := tN y s) (by omega)
  have u3 := tN_le hok (s := tN y (tN y s)) (by omega)
  have u4 := tN_le hok (s := tN y (tN y (tN y s))) (by omega)
  have sb : ∀ {a b : amH}, bFr wTK a b → bFr wRS a b := fun F => bFr_sub F (by decide)
  have rg : ∀ {s pre}, tNum y s 0 ((V : Int) - 1) pre = 0 → 0 ≤ tV y s ∧ tV y s < (V : Int) ∧ ¬ tV y s ∈ pre := fun {s pre} h => by
    unfold tNum at h
    split at h
    · cases h
    · split at h
      · cases h
      · split at h
        · cases h
        · next g => exact ⟨by omega, by omega, g⟩
  refine m247 (pre := []) (kk := 0) hH hP Y hT (by omega) hB h0 rfl (fun k hk => by omega) (by omega) (by decide) (fun z hp1 e1 e2 e3 e4 e5 e6 => hR z hp1 e3 (P0_tk e4 hP) (sb e4) (rSr_e (tSt_2 hwd e1) e2 e5 e6)) (fun k1 hp1 n1 H1 F1 T1 A1 C1 D1 E1 K1 => ?_)
  have q0 : rN hp1 66 21 = rN hp 66 21 := r_fr F1 rfl
  have B1 := rdOk_fr hB (fun i => (r_fr F1 rfl : rN hp1 67 i = rN hp 67 i))
  refine m247 (pre := [tV y (tN y s)]) (kk := 1) H1 (P0_tk F1 hP) (by rw [rB_tk F1, Y]) T1 (by omega) B1 A1 rfl (fun k hk => by rw [show k = 0 by omega]; exact E1) (by omega) (by decide) (fun z hp2 e1 e2 e3 e4 e5 e6 => hR z hp2 e3 (P0_tk e4 (P0_tk F1 hP)) (sb (F1.trans e4)) (rSr_e (tSt_3 hwd n1 e1) e2 e5 e6)) (fun k2 hp2 n2 H2 F2 T2 A2 C2 D2 E2 K2 => ?_)
  have q1 : rN hp2 66 21 = rN hp1 66 21 := r_fr F2 rfl
  have B2 := rdOk_fr B1 (fun i => (r_fr F2 rfl : rN hp2 67 i = rN hp1 67 i))
  have G2 := F1.trans F2
  refine m247 (pre := [tV y (tN y s), tV y (tN y (tN y s))]) (kk := 2) H2 (P0_tk G2 hP) (by rw [rB_tk G2, Y]) T2 (by omega) B2 A2 rfl (fun k hk => by rcases (by omega : k = 0 ∨ k = 1) with e | e; rw [e, D2 0 (by omega)]; exact E1; rw [e]; exact E2) (by omega) (by decide) (fun z hp3 e1 e2 e3 e4 e5 e6 => hR z hp3 e3 (P0_tk e4 (P0_tk G2 hP)) (sb (G2.trans e4)) (rSr_e (tSt_4 hwd n1 n2 e1) e2 e5 e6)) (fun k3 hp3 n3 H3 F3 T3 A3 C3 D3 E3 K3 => ?_)
  have q2 : rN hp3 66 21 = rN hp2 66 21 := r_fr F3 rfl
  have B3 := rdOk_fr B2 (fun i => (r_fr F3 rfl : rN hp3 67 i = rN hp2 67 i))
  have G3 := G2.trans F3
  obtain ⟨r1a, r1b, -⟩ := rg n1
  obtain ⟨r2a, r2b, r2n⟩ := rg n2
  obtain ⟨r3a, r3b, r3n⟩ := rg n3
  simp only [List.mem_singleton, List.mem_cons, List.not_mem_nil, or_false, not_or] at r2n r3n
  have w0 : rN hp3 81 0 = tV y (tN y s) := by rw [D3 0 (by omega), D2 0 (by omega)]; exact E1
  have w1 : rN hp3 81 1 = tV y (tN y (tN y s)) := by rw [D3 1 (by omega)]; exact E2
  exact f247 (v1 := (tV y (tN y s)).toNat) (v2 := (tV y (tN y (tN y s))).toNat) (v3 := (tV y (tN y (tN y (tN y s)))).toNat) H3 (P0_tk G3 hP) (sb G3) (by omega) (fun i _ _ => r_fr G3 rfl) (by rw [rB_tk G3, Y]) T3 (by omega) B3 A3 ⟨hwd, n1, n2, n3⟩ (by omega) (by omega) (by omega) (by omega) (by omega) (by omega) (by omega) (by omega) (by omega) (by omega) (by omega) (by omega) (by omega) hdv hR
theorem k_rrt {d : Nat} {hp : amH} {R : xQ} {y : tY} {s V : Nat} {T : sT} {g : Int32} (hH : bHk 84 bTT hp) (hP : P0 hp) (Y : rB hp = y) (hT : rT hp y s) (hs : (s : Int) ≤ rN hp 66 21) (hB : rdOk hp V T) (h0 : rN hp 66 24 = 0) (hwd : tWd y s wDev = true ∨ tWd y s wTri = true) (hdv : (g.toInt = 1 ∧ tWd y s wDev = true) ∨ (g.toInt = 0 ∧ tWd y s wTri = true))
    (hR : ∀ (z : Int32) hp1, bHk 84 bTT hp1 → P0 hp1 → bFr wRS hp hp1 → rSr y V T s z.toInt hp hp1 → R (.inl (some (.int z))) hp1) : xK (d + 5) 247 [.ref 66, .int g] hp R := by
  have hok : tOk (rN hp 66 21).toNat y := by rw [← Y]; exact rB_ok hH
  have b0 := b21 hH
  have w1 := tE_le hok (s := s) (by omega)
  refine xin (M := am_m247) rfl rfl rfl ?_
  refine xald 1 ⟨u247, _, rfl⟩ rfl rfl ?_
  refine xcall 4 [.ref 66] [] hH ⟨u247, _, rfl⟩ rfl rfl rfl rfl rfl (k_radv hH Y (p := tE y s) hT.2.1 (by omega) (fun hp1 hH1 F1 Y1 T1 => ⟨_, rfl, ?_⟩))
  refine xcst 5 (0) ⟨u247, _, rfl⟩ rfl (by decide) (fun z4 h4 => ?_)
  refine xist 6 ⟨u247, _, rfl⟩ rfl rfl ?_
  have G1 : bFr wRS hp hp1 := bFr_sub F1 (by decide)
  have n1 : rN hp1 66 21 = rN hp 66 21 := r_fr F1 rfl
  exact t247 hH1 (P0_W (W := wAdv) (by decide) F1 hP) Y1 T1 (by omega) (rdOk_fr hB (fun i => r_fr F1 rfl)) (by rw [show rN hp1 66 24 = rN hp 66 24 from r_fr F1 rfl]; exact h0) (by omega) hwd hdv (fun z hp2 g1 g2 g3 g4 => hR z hp2 g1 g2 (G1.trans g3) (rSr_h g4 (r_fr F1 rfl) (fun i _ _ => r_fr F1 rfl)))
theorem rSr_01 {y : tY} {V : Nat} {T : sT} {s : Nat} {z : Int} {hp hp1 : amH} (h : rSr y V T s z hp hp1) : z = 0 ∨ z = 1 := by
  unfold rSr at h
  split at h
  · exact Or.inl h.1
  · exact Or.inr h.1
theorem k_rrs {d : Nat} {hp : amH} {R : xQ} {y : tY} {s V : Nat} {T : sT} (hH : bHk 84 bTT hp) (hP : P0 hp) (Y : rB hp = y) (hT : rT hp y s) (hs : (s : Int) ≤ rN hp 66 21) (hB : rdOk hp V T) (h0 : rN hp 66 24 = 0)
    (hR : ∀ (z : Int32) hp1, bHk 84 bTT hp1 → P0 hp1 → bFr wRS hp hp1 → rSr y V T s z.toInt hp hp1 → R (.inl (some (.int z))) hp1) : xK (d + 6) 249 [.ref 66] hp R := by
  refine xin (M := am_m249) rfl rfl rfl ?_
  refine xald 1 ⟨u249, _, rfl⟩ rfl rfl ?_
  refine xldcW 3 ⟨u249, _, rfl⟩ rfl ?_
  refine xcall 6 [.ref 66, .ref 1000020] [] hH ⟨u249, _, rfl⟩ rfl rfl rfl rfl rfl (k_rw2 (l := wTri) rfl ⟨rfl, by decide⟩ hH Y hT hs (fun z3 h3 => ⟨_, rfl, ?_⟩))
  refine xif_eq 9 ⟨u249, _, rfl⟩ rfl (fun c6 => ?_) (fun c6 => ?_)
  · have nt : tWd y s wTri = false := by rcases h3 with g | g; omega; exact g.2
    refine xald 16 ⟨u249, _, rfl⟩ rfl rfl ?_
    refine xldcW3 19 ⟨u249, _, rfl⟩ rfl ?_
    refine xcall 22 [.ref 66, .ref 1000021] [] hH ⟨u249, _, rfl⟩ rfl rfl rfl rfl rfl (k_rw2 (l := wDev) rfl ⟨rfl, by decide⟩ hH Y hT hs (fun z19 h19 => ⟨_, rfl, ?_⟩))
    refine xif_eq 25 ⟨u249, _, rfl⟩ rfl (fun c22 => ?_) (fun c22 => ?_)
    · have nd : tWd y s wDev = false := by rcases h19 with g | g; omega; exact g.2
      refine xald 34 ⟨u249, _, rfl⟩ rfl rfl ?_
      refine xcst 35 (1) ⟨u249, _, rfl⟩ rfl (by decide) (fun z34 h34 => ?_)
      refine xcall 38 [.ref 66, .int _] [] hH ⟨u249, _, rfl⟩ rfl rfl rfl rfl rfl (k_rf hH h0 (fun z35 hp35 Z35 hH35 F35 A35 B35 => ⟨_, rfl, ?_⟩))
      exact xretB ⟨u249, _, rfl⟩ rfl (by omega) (hR _ hp35 hH35 (P0_tk (bFr_sub F35 (by decide)) hP) (bFr_sub F35 (by decide)) (rSr_e (tSt_1 (fun z => by rcases z with z | z; rw [nd] at z; cases z; rw [nt] at z; cases z)) (by omega) (by omega) (by rw [B35]; exact hT.1)))
    · have wd : tWd y s wDev = true := by rcases h19 with g | g; exact g.2; omega
      refine xald 26 ⟨u249, _, rfl⟩ rfl rfl ?_
      refine xcst 27 (1) ⟨u249, _, rfl⟩ rfl (by decide) (fun z26 h26 => ?_)
      refine xcall 30 [.ref 66, .int _] [] hH ⟨u249, _, rfl⟩ rfl rfl rfl rfl rfl (k_rrt hH hP Y hT hs hB h0 (Or.inl wd) (Or.inl ⟨by omega, wd⟩) (fun z27 hp27 hH27 hP27 F27 r27 => ⟨_, rfl, ?_⟩))
      refine xgoto ⟨u249, _, rfl⟩ ?_
      exact xretB ⟨u249, _, rfl⟩ rfl (rSr_01 r27) (hR _ hp27 hH27 hP27 F27 r27)
  · have wd : tWd y s wTri = true := by rcases h3 with g | g; exact g.2; omega
    refine xald 10 ⟨u249, _, rfl⟩ rfl rfl ?_
    refine xcst 11 (0) ⟨u249, _, rfl⟩ rfl (by decide) (fun z10 h10 => ?_)
    refine xcall 14 [.ref 66, .int _] [] hH ⟨u249, _, rfl⟩ rfl rfl rfl rfl rfl (k_rrt hH hP Y hT hs hB h0 (Or.inr wd) (Or.inr ⟨by omega, wd⟩) (fun z11 hp11 hH11 hP11 F11 r11 => ⟨_, rfl, ?_⟩))
    exact xretB ⟨u249, _, rfl⟩ rfl (rSr_01 r11) (hR _ hp11 hH11 hP11 F11 r11)
theorem Vf_new {r : Nat → Int} {v : Int} (h0 : r 0 = v) (h1 : 3 ≤ v) (h2 : v ≤ 15) (h : ∀ i, 4 ≤ i → i < 229 → r i = -1) : Vf r := ⟨by omega, by omega, fun a b ha hb => Or.inl (h _ (by omega) (by omega))⟩
noncomputable def rPr (y : tY) (s : Nat) (z : Int) (hp hp1 : amH) : Prop := match tPt y s with
  | .inl e => z = 0 ∧ rN hp1 66 24 = e.1 ∧ rN hp1 66 25 = (e.2 : Int)
  | .inr V => z = 1 ∧ 3 ≤ V ∧ V ≤ 15 ∧ rdOk hp1 V sE ∧ rT hp1 y (tN y (tN y s)) ∧ rN hp1 66 24 = 0 ∧ rN hp1 66 25 = rN hp 66 25 ∧ ∀ i, 1 ≤ i → i < 4 → rN hp1 67 i = rN hp 67 i
theorem rPr_e {y : tY} {s : Nat} {z : Int} {hp hp1 : amH} {c : Int} {q : Nat} (e : tPt y s = .inl (c, q)) (hz : z = 0) (h1 : rN hp1 66 24 = c) (h2 : rN hp1 66 25 = (q : Int)) : rPr y s z hp hp1 := by
  unfold rPr
  rw [e]
  exact ⟨hz, h1, h2⟩
theorem k_rrp {d : Nat} {hp : amH} {R : xQ} {y : tY} {s : Nat} (hH : bHk 84 bTT hp) (hP : P0 hp) (hM : hE hp) (Y : rB hp = y) (hT : rT hp y s) (hs : (s : Int) ≤ rN hp 66 21) (h0 : rN hp 66 24 = 0)
    (hR : ∀ (z : Int32) hp1, bHk 84 bTT hp1 → P0 hp1 → bFr wRS hp hp1 → rPr y s z.toInt hp hp1 → R (.inl (some (.int z))) hp1) : xK (d + 3) 248 [.ref 66] hp R := by
  have hok : tOk (rN hp 66 21).toNat y := by rw [← Y]; exact rB_ok hH
  have b0 := b21 hH
  have w1 := tE_le hok (s := s) (by omega)
  have u1 := tN_le hok (s := s) (by omega)
  refine xin (M := am_m248) rfl rfl rfl ?_
  refine xald 1 ⟨u248, _, rfl⟩ rfl rfl ?_
  refine xldcW 3 ⟨u248, _, rfl⟩ rfl ?_
  refine xcall 6 [.ref 66, .ref 1000019] [] hH ⟨u248, _, rfl⟩ rfl rfl rfl rfl rfl (k_rw2 (l := wPts) rfl ⟨rfl, by decide⟩ hH Y hT hs (fun z3 h3 => ⟨_, rfl, ?_⟩))
  refine xif_ne 9 ⟨u248, _, rfl⟩ rfl (fun c6 => ?_) (fun c6 => ?_)
  · have wT : ¬ ¬ tWd y s wPts = true := by rcases h3 with g | g; exact fun z => z g.2; omega
    refine xald 16 ⟨u248, _, rfl⟩ rfl rfl ?_
    refine xcall 19 [.ref 66] [] hH ⟨u248, _, rfl⟩ rfl rfl rfl rfl rfl (k_radv hH Y (p := tE y s) hT.2.1 (by omega) (fun hp16 hH16 F16 Y16 T16 => ⟨_, rfl, ?_⟩))
    have n16 : rN hp16 66 21 = rN hp 66 21 := r_fr F16 rfl
    have m16 : rN hp16 66 24 = rN hp 66 24 := r_fr F16 rfl
    have T16 : rT hp16 y (tN y s) := T16
    refine xald 20 ⟨u248, _, rfl⟩ rfl rfl ?_
    refine xcst 21 (0) ⟨u248, _, rfl⟩ rfl (by decide) (fun z20 h20 => ?_)
    refine xcst 22 (3) ⟨u248, _, rfl⟩ rfl (by decide) (fun z21 h21 => ?_)
    refine xbip 24 (15) ⟨u248, _, rfl⟩ rfl (by decide) (fun z22 h22 => ?_)
    refine xcall 27 [.ref 66, .int _, .int _, .int _] [] hH16 ⟨u248, _, rfl⟩ rfl rfl rfl rfl rfl (k_tkp hH16 Y16 T16 (by omega) (by omega) (tt := 0) (pre := []) h20 (by omega) rfl (fun k hk => by omega) (fun z24 hp24 hH24 F24 r24 => ⟨_, rfl, ?_⟩))
    rw [h21, h22] at r24
    refine xif_ne 30 ⟨u248, _, rfl⟩ rfl (fun c27 => ?_) (fun c27 => ?_)
    · obtain ⟨r1, r2, r3, r4, T24, r6, r7⟩ := r24.resolve_right (fun z => by omega)
      have T24 : rT hp24 y (tN y (tN y s)) := T24
      have K24 := T24.2.2.1
      have rng : 3 ≤ tV y (tN y s) ∧ tV y (tN y s) ≤ 15 := by
        unfold tNum at r1
        split at r1
        · cases r1
        · split at r1
          · cases r1
          · omega
      have P24 : P0 hp24 := P0_tk F24 (P0_W (W := wAdv) (by decide) F16 hP)
      refine xald 33 ⟨u248, _, rfl⟩ rfl rfl ?_
      refine xgetR 36 67 hH24 ⟨u248, _, rfl⟩ rfl rfl ?_
      refine xcst 37 (0) ⟨u248, _, rfl⟩ rfl (by decide) (fun z36 h36 => ?_)
      refine xald 38 ⟨u248, _, rfl⟩ rfl rfl ?_
      refine xgetR 41 81 hH24 ⟨u248, _, rfl⟩ rfl rfl ?_
      refine xcst 42 (0) ⟨u248, _, rfl⟩ rfl (by decide) (fun z41 h41 => ?_)
      refine xiald 43 (z41).toInt.toNat hH24 ⟨u248, _, rfl⟩ rfl (by decide) rfl (by omega) (by omega) (fun z42 h42 => ?_)
      have bm := aMin z42
      have bx := aMax z42
      refine xiast 44 (z36).toInt.toNat hH24 ⟨u248, _, rfl⟩ rfl (by decide) rfl (by omega) (by omega) (by omega) (by omega) (fun hp43 hH43 U43 => ?_)
      have s43 := U43.1
      have v42 : z42.toInt = tV y (tN y s) := by rw [h42, show z41.toInt.toNat = 0 by omega]; exact r3
      have e43 : rN hp43 67 0 = tV y (tN y s) := by have e := U43.1; rw [show z36.toInt.toNat = 0 by omega] at e; omega
      have F43 : bFr [(67, 999)] hp24 hp43 := rU_fr U43 (bIn_all (by decide) _)
      have P43 : P0 hp43 := P0_67 F43 P24 (Vf_new e43 rng.1 rng.2 (fun i i1 i2 => by rw [rU_ne U43 (by first | decide | exact (fun z => absurd z.1 (by decide)) | omega), show rN hp24 67 i = rN hp16 67 i from r_fr F24 rfl, show rN hp16 67 i = rN hp 67 i from r_fr F16 rfl]; exact hM i i1 i2))
      have D43 : rdOk hp43 (tV y (tN y s)).toNat sE := ⟨by omega, sOk_E (by omega) (by omega), fun u v hu hv => by unfold tT; rw [rU_ne U43 (by first | decide | exact (fun z => absurd z.1 (by decide)) | omega), show rN hp24 67 (4 + 15 * u + v) = rN hp16 67 (4 + 15 * u + v) from r_fr F24 rfl, show rN hp16 67 (4 + 15 * u + v) = rN hp 67 (4 + 15 * u + v) from r_fr F16 rfl]; exact hM _ (by omega) (by omega), fun u v _ => rfl⟩
      refine xald 45 ⟨u248, _, rfl⟩ rfl rfl ?_
      refine xgetI 48 hH43 ⟨u248, _, rfl⟩ rfl rfl (fun z45 h45 => ?_)
      refine xcst 49 (3) ⟨u248, _, rfl⟩ rfl (by decide) (fun z48 h48 => ?_)
      refine xcmp_eq 52 ⟨u248, _, rfl⟩ rfl (fun c49 => ?_) (fun c49 => ?_)
      · have z29 : z45.toInt = rN hp24 66 29 := by rw [h45, rU_ne U43 (by first | decide | exact (fun z => absurd z.1 (by decide)) | omega)]
        have k3 : tK y (tN y (tN y s)) = 3 := by omega
        refine xcst 61 (1) ⟨u248, _, rfl⟩ rfl (by decide) (fun z60 h60 => ?_)
        refine xgoto ⟨u248, _, rfl⟩ ?_
        exact xretB ⟨u248, _, rfl⟩ rfl (by omega) (hR _ hp43 hH43 P43 (((bFr_sub F16 (by decide) : bFr wRS hp hp16).trans (bFr_sub F24 (by decide))).trans (bFr_sub F43 (by decide))) (by unfold rPr; rw [show tPt y s = .inr (tV y (tN y s)).toNat by unfold tPt; rw [if_neg wT, if_neg (fun z => z r1), if_neg (fun z => z k3)]]; exact ⟨by omega, by omega, by omega, D43, rT_67 T24 F43, by rw [rU_ne U43 (by first | decide | exact (fun z => absurd z.1 (by decide)) | omega)]; exact r6, by rw [rU_ne U43 (by first | decide | exact (fun z => absurd z.1 (by decide)) | omega), r7]; exact r_fr F16 rfl, fun i i1 i2 => by rw [rU_ne U43 (by first | decide | exact (fun z => absurd z.1 (by decide)) | omega), show rN hp24 67 i = rN hp16 67 i from r_fr F24 rfl]; exact r_fr F16 rfl⟩))
      · have z29 : z45.toInt = rN hp24 66 29 := by rw [h45, rU_ne U43 (by first | decide | exact (fun z => absurd z.1 (by decide)) | omega)]
        refine xald 53 ⟨u248, _, rfl⟩ rfl rfl ?_
        refine xcst 54 (1) ⟨u248, _, rfl⟩ rfl (by decide) (fun z53 h53 => ?_)
        refine xcall 57 [.ref 66, .int _] [] hH43 ⟨u248, _, rfl⟩ rfl rfl rfl rfl rfl (k_rf hH43 (by rw [rU_ne U43 (by first | decide | exact (fun z => absurd z.1 (by decide)) | omega)]; exact r6) (fun z54 hp54 Z54 hH54 F54 A54 B54 => ⟨_, rfl, ?_⟩))
        refine xif_eq 60 ⟨u248, _, rfl⟩ rfl (fun c57 => ?_) (fun c57 => ?_)
        · refine xcst 65 (0) ⟨u248, _, rfl⟩ rfl (by decide) (fun z64 h64 => ?_)
          exact xretB ⟨u248, _, rfl⟩ rfl (by omega) (hR _ hp54 hH54 (P0_tk (bFr_sub F54 (by decide)) P43) (((bFr_sub F16 (by decide) : bFr wRS hp hp16).trans (bFr_sub F24 (by decide))).trans ((bFr_sub F43 (by decide)).trans (bFr_sub F54 (by decide)))) (rPr_e (by unfold tPt; rw [if_neg wT, if_neg (fun z => z r1), if_pos (fun z => c49 (by omega))]) (by omega) (by omega) (by rw [B54, rU_ne U43 (by first | decide | exact (fun z => absurd z.1 (by decide)) | omega)]; exact T24.1)))
        · omega
    · have P24 : P0 hp24 := P0_tk F24 (P0_W (W := wAdv) (by decide) F16 hP)
      refine xcst 31 (0) ⟨u248, _, rfl⟩ rfl (by decide) (fun z30 h30 => ?_)
      rcases r24 with r | ⟨r1, r2, r3, r4⟩
      · omega
      · exact xretB ⟨u248, _, rfl⟩ rfl (by omega) (hR _ hp24 hH24 P24 ((bFr_sub F16 (by decide) : bFr wRS hp hp16).trans (bFr_sub F24 (by decide))) (rPr_e (by unfold tPt; rw [if_neg wT, if_pos r1]) (by omega) r3 r4))
  · refine xald 10 ⟨u248, _, rfl⟩ rfl rfl ?_
    refine xcst 11 (1) ⟨u248, _, rfl⟩ rfl (by decide) (fun z10 h10 => ?_)
    refine xcall 14 [.ref 66, .int _] [] hH ⟨u248, _, rfl⟩ rfl rfl rfl rfl rfl (k_rf hH h0 (fun z11 hp11 Z11 hH11 F11 A11 B11 => ⟨_, rfl, ?_⟩))
    exact xretB ⟨u248, _, rfl⟩ rfl (by omega) (hR _ hp11 hH11 (P0_tk (bFr_sub F11 (by decide)) hP) (bFr_sub F11 (by decide)) (rPr_e (by unfold tPt; rw [if_pos (by rcases h3 with g | g; omega; rw [g.2]; decide)]) (by omega) (by omega) (by rw [B11]; exact hT.1)))
end
/-! ##### 19.m.018.26q ##### -/
section
/-! ===== the reference loads ===== -/
noncomputable def rRr (y : tY) (V f : Nat) (T : sT) (s : Nat) (z : Int) (hp hp1 : amH) : Prop := match tRs y V f T s with
  | .inl e => z = 0 ∧ rN hp1 66 24 = e.1 ∧ rN hp1 66 25 = (e.2 : Int)
  | .inr T1 => z = 1 ∧ rdOk hp1 V T1 ∧ rN hp1 66 24 = 0 ∧ rN hp1 66 25 = rN hp 66 25 ∧ ∀ i, 1 ≤ i → i < 4 → rN hp1 67 i = rN hp 67 i
theorem m250 {d : Nat} {hp0 : amH} {R : xQ} {y : tY} {V : Nat} (hok : tOk (rN hp0 66 21).toNat y) (hb0 : rN hp0 66 21 ≤ 600) :
    ∀ (f s : Nat) (T : sT) (hp : amH), bHk 84 bTT hp → P0 hp → bFr wRS hp0 hp → rB hp = y → rT hp y s → (s : Int) ≤ rN hp0 66 21 → rdOk hp V T → rN hp 66 24 = 0 → rN hp 66 25 = rN hp0 66 25 → (∀ i, 1 ≤ i → i < 4 → rN hp 67 i = rN hp0 67 i) → 600 < f + s →
    (∀ (z : Int32) hp1, bHk 84 bTT hp1 → P0 hp1 → bFr wRS hp0 hp1 → rRr y V f T s z.toInt hp0 hp1 → R (.inl (some (.int z))) hp1) → xV (d + 7) am_m250 13 [some (.ref 66)] [] hp R := by
  intro f
  induction f with
  | zero => intro s T hp hH hP hF Y hT hs hB h1 h2 h4 hf hR; omega
  | succ f ih =>
    intro s T hp hH hP hF Y hT hs hB h1 h2 h4 hf hR
    have q0 : rN hp 66 21 = rN hp0 66 21 := r_fr hF rfl
    have K0 := hT.2.2.1
    unfold rRr tRs at hR
    refine xald 14 ⟨u250, _, rfl⟩ rfl rfl ?_
    refine xgetI 17 hH ⟨u250, _, rfl⟩ rfl rfl (fun z14 h14 => ?_)
    refine xif_eq 20 ⟨u250, _, rfl⟩ rfl (fun c17 => ?_) (fun c17 => ?_)
    · rw [if_pos (show tK y s = 0 by omega)] at hR
      refine xcst 37 (1) ⟨u250, _, rfl⟩ rfl (by decide) (fun z36 h36 => ?_)
      exact xretB ⟨u250, _, rfl⟩ rfl (by omega) (hR _ hp hH hP hF ⟨by omega, hB, h1, h2, h4⟩)
    · have nk : ¬ tK y s = 0 := by omega
      rw [if_neg nk] at hR
      refine xald 21 ⟨u250, _, rfl⟩ rfl rfl ?_
      refine xcall 24 [.ref 66] [] hH ⟨u250, _, rfl⟩ rfl rfl rfl rfl rfl (k_rrs hH hP Y hT (by omega) hB h1 (fun z21 hp21 hH21 hP21 F21 r21 => ⟨_, rfl, ?_⟩))
      refine xif_ne 27 ⟨u250, _, rfl⟩ rfl (fun c24 => ?_) (fun c24 => ?_)
      · obtain ⟨qq, e⟩ : ∃ qq, tSt y V T s = .inr qq := by
          cases e : tSt y V T s with
          | inl er => unfold rSr at r21; rw [e] at r21; have := r21.1; omega
          | inr qq => exact ⟨qq, rfl⟩
        rw [e] at hR
        unfold rSr at r21
        rw [e] at r21
        obtain ⟨r1, r2, ⟨s4, r3, r3b, r3c⟩, S1, S2, S3⟩ := r21
        have n21 : rN hp21 66 21 = rN hp 66 21 := r_fr F21 rfl
        have gt := tSt_gt hok e
        refine xald 30 ⟨u250, _, rfl⟩ rfl rfl ?_
        refine xcall 33 [.ref 66] [] hH21 ⟨u250, _, rfl⟩ rfl rfl rfl rfl rfl (k_radv hH21 (by rw [rB_rs F21, Y]) (p := tE y s4) r3.2.1 (by rw [show rN hp21 66 21 = rN hp 66 21 from r_fr F21 rfl, q0]; have := tE_le hok (s := s4) (by omega); omega) (fun hp30 hH30 F30 Y30 T30 => ⟨_, rfl, ?_⟩))
        refine xgoto ⟨u250, _, rfl⟩ ?_
        have F30b : bFr wRS hp hp30 := F21.trans (bFr_sub F30 (by decide))
        exact ih qq.2 qq.1 hp30 hH30 (P0_W (W := wAdv) (by decide) F30 hP21) (hF.trans F30b) Y30 (by rw [r3b]; exact T30) (by have := gt.2 (by omega); omega) (rdOk_fr r2 (fun i => r_fr F30 rfl)) (by rw [show rN hp30 66 24 = rN hp21 66 24 from r_fr F30 rfl]; exact S1) (by rw [show rN hp30 66 25 = rN hp21 66 25 from r_fr F30 rfl, S2]; exact h2) (fun i i1 i2 => by rw [show rN hp30 67 i = rN hp21 67 i from r_fr F30 rfl, S3 i i1 i2]; exact h4 i i1 i2) (by omega) hR
      · refine xcst 28 (0) ⟨u250, _, rfl⟩ rfl (by decide) (fun z27 h27 => ?_)
        cases e : tSt y V T s with
        | inl er =>
          rw [e] at hR
          unfold rSr at r21
          rw [e] at r21
          exact xretB ⟨u250, _, rfl⟩ rfl (by omega) (hR _ hp21 hH21 hP21 (hF.trans F21) ⟨by omega, r21.2⟩)
        | inr qq =>
          unfold rSr at r21
          rw [e] at r21
          have := r21.1
          omega
noncomputable def rRt (y : tY) (z : Int) (hp hp1 : amH) : Prop := match tRd y with
  | .inl e => z = 0 ∧ rN hp1 66 24 = e.1 ∧ rN hp1 66 25 = (e.2 : Int)
  | .inr q => z = 1 ∧ rdOk hp1 q.1 q.2 ∧ rN hp1 66 24 = 0 ∧ rN hp1 66 25 = rN hp 66 25 ∧ ∀ i, 1 ≤ i → i < 4 → rN hp1 67 i = rN hp 67 i
theorem k_rrx {d : Nat} {hp : amH} {R : xQ} {y : tY} (hH : bHk 84 bTT hp) (hP : P0 hp) (hM : hE hp) (Y : rB hp = y) (hT : rT hp y (tS y 0)) (h0 : rN hp 66 24 = 0)
    (hR : ∀ (z : Int32) hp1, bHk 84 bTT hp1 → P0 hp1 → bFr wRS hp hp1 → rRt y z.toInt hp hp1 → R (.inl (some (.int z))) hp1) : xK (d + 7) 250 [.ref 66] hp R := by
  have hok : tOk (rN hp 66 21).toNat y := by rw [← Y]; exact rB_ok hH
  have b0 := b21 hH
  have u0 := tS_le hok (p := 0) (by omega)
  have u1 := tN_le hok (s := tS y 0) (by omega)
  have u2 := tN_le hok (s := tN y (tS y 0)) (by omega)
  have u3 := tN_le hok (s := tN y (tN y (tS y 0))) (by omega)
  have u2e := tE_le hok (s := tN y (tN y (tS y 0))) (by omega)
  refine xin (M := am_m250) rfl rfl rfl ?_
  refine xald 1 ⟨u250, _, rfl⟩ rfl rfl ?_
  refine xcall 4 [.ref 66] [] hH ⟨u250, _, rfl⟩ rfl rfl rfl rfl rfl (k_rrp hH hP hM Y hT (by omega) h0 (fun z1 hp1 hH1 hP1 F1 r1 => ⟨_, rfl, ?_⟩))
  have n1 : rN hp1 66 21 = rN hp 66 21 := r_fr F1 rfl
  refine xif_ne 7 ⟨u250, _, rfl⟩ rfl (fun c4 => ?_) (fun c4 => ?_)
  · obtain ⟨V, e⟩ : ∃ V, tPt y (tS y 0) = .inr V := by
      cases e : tPt y (tS y 0) with
      | inl er => unfold rPr at r1; rw [e] at r1; have := r1.1; omega
      | inr V => exact ⟨V, rfl⟩
    unfold rPr at r1
    rw [e] at r1
    obtain ⟨r1a, r2, r3, r4, r5, r6, r7, r8⟩ := r1
    refine xald 10 ⟨u250, _, rfl⟩ rfl rfl ?_
    refine xcall 13 [.ref 66] [] hH1 ⟨u250, _, rfl⟩ rfl rfl rfl rfl rfl (k_radv hH1 (by rw [rB_rs F1, Y]) (p := tE y (tN y (tN y (tS y 0)))) r5.2.1 (by omega) (fun hp10 hH10 F10 Y10 T10 => ⟨_, rfl, ?_⟩))
    refine m250 (hp0 := hp) hok b0.2 601 (tN y (tN y (tN y (tS y 0)))) sE hp10 hH10 (P0_W (W := wAdv) (by decide) F10 hP1) (F1.trans (bFr_sub F10 (by decide))) Y10 T10 (by omega) (rdOk_fr r4 (fun i => r_fr F10 rfl)) (by rw [show rN hp10 66 24 = rN hp1 66 24 from r_fr F10 rfl]; exact r6) (by rw [show rN hp10 66 25 = rN hp1 66 25 from r_fr F10 rfl]; exact r7) (fun i i1 i2 => by rw [show rN hp10 67 i = rN hp1 67 i from r_fr F10 rfl]; exact r8 i i1 i2) (by omega) (fun z hp2 g1 g2 g3 g4 => hR z hp2 g1 g2 g3 ?_)
    unfold rRr at g4
    unfold rRt tRd
    rw [e]
    cases e2 : tRs y V 601 sE (tN y (tN y (tN y (tS y 0)))) with
    | inl er => rw [e2] at g4; show (match (match tRs y V 601 sE (tN y (tN y (tN y (tS y 0)))) with | .inl e => Sum.inl e | .inr T => Sum.inr (V, T)) with | Sum.inl e => z.toInt = 0 ∧ rN hp2 66 24 = e.fst ∧ rN hp2 66 25 = (e.snd : Int) | Sum.inr q => z.toInt = 1 ∧ rdOk hp2 q.fst q.snd ∧ rN hp2 66 24 = 0 ∧ rN hp2 66 25 = rN hp 66 25 ∧ ∀ i, 1 ≤ i → i < 4 → rN hp2 67 i = rN hp 67 i); rw [e2]; exact g4
    | inr T1 => rw [e2] at g4; show (match (match tRs y V 601 sE (tN y (tN y (tN y (tS y 0)))) with | .inl e => Sum.inl e | .inr T => Sum.inr (V, T)) with | Sum.inl e => z.toInt = 0 ∧ rN hp2 66 24 = e.fst ∧ rN hp2 66 25 = (e.snd : Int) | Sum.inr q => z.toInt = 1 ∧ rdOk hp2 q.fst q.snd ∧ rN hp2 66 24 = 0 ∧ rN hp2 66 25 = rN hp 66 25 ∧ ∀ i, 1 ≤ i → i < 4 → rN hp2 67 i = rN hp 67 i); rw [e2]; exact g4
  · refine xcst 8 (0) ⟨u250, _, rfl⟩ rfl (by decide) (fun z7 h7 => ?_)
    cases e : tPt y (tS y 0) with
    | inl er =>
      unfold rPr at r1
      rw [e] at r1
      exact xretB ⟨u250, _, rfl⟩ rfl (by omega) (hR _ hp1 hH1 hP1 F1 (by unfold rRt tRd; rw [e]; exact ⟨by omega, r1.2⟩))
    | inr V =>
      unfold rPr at r1
      rw [e] at r1
      have := r1.1
      omega
end
