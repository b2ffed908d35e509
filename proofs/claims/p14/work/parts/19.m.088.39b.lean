/-! ===== the reference switches a quadrilateral ===== -/
theorem lfL_app {p : Nat} : ∀ {A : List Nat} {l m : Nat}, lfL p l (A ++ [m]) = if m.testBit p = true then ndif (lfL p l A) m else lfL p l A
  | [], _, _ => rfl
  | a :: r, l, m => lfL_app (p := p) (A := r) (l := if a.testBit p = true then ndif l a else l) (m := m)
theorem lfL_lt {p : Nat} : ∀ {A : List Nat} {l : Nat}, l < 32768 → lfL p l A < 32768
  | [], _, h => h
  | a :: r, l, h => lfL_lt (p := p) (A := r) (by
      split
      · exact nd_lt h
      · exact h)
/-- the numbers of a quadrilateral's triples in the reference's row -/
theorem rq_get {hp : amH} {V : Nat} {T : sT} (hT : sOk V T) (hQ : rqN hp T 42875) {q : Nat} (hq : q < nQ T) : (∀ k, k < 4 → rN hp 76 (4 * q + k) = (((qL T (cQ2 T q)).getD k 0 : Nat) : Int)) ∧ rN hp 66 14 = ((nQ T : Nat) : Int) := by
  obtain ⟨g1, g2, g3⟩ := fL_get (B := qdB T) 42875 q hq
  obtain ⟨-, -, e, -⟩ := qd_X hT g2 g1
  obtain ⟨Q1, Q2⟩ := hQ
  obtain ⟨a, b, c, d⟩ := Q2 q hq
  refine ⟨fun k hk => ?_, Q1⟩
  have : k = 0 ∨ k = 1 ∨ k = 2 ∨ k = 3 := by omega
  rcases this with rfl | rfl | rfl | rfl
  · exact a
  · exact b
  · exact c
  · exact d.trans e
theorem qL_lt {V : Nat} {T : sT} (hT : sOk V T) {q : Nat} (hq : q < nQ T) : ∀ k, k < 4 → (qL T (cQ2 T q)).getD k 0 < (trL T 225).length ∧ mN T ((qL T (cQ2 T q)).getD k 0) ∈ qG T (cQ2 T q) ∧ (qG T (cQ2 T q)).getD k 0 = mN T ((qL T (cQ2 T q)).getD k 0) ∧ (qC T (cQ2 T q)).getD k 0 = ndif (qU T (cQ2 T q)) (mN T ((qL T (cQ2 T q)).getD k 0)) := fun k hk => by
  obtain ⟨g1, g2, g3⟩ := fL_get (B := qdB T) 42875 q hq
  obtain ⟨⟨⟨b1, b2, b3, b4⟩, -⟩, -⟩ := qd_X hT g2 g1
  have : k = 0 ∨ k = 1 ∨ k = 2 ∨ k = 3 := by omega
  rcases this with rfl | rfl | rfl | rfl
  · exact ⟨b1, List.mem_cons_self, rfl, rfl⟩
  · exact ⟨b2, List.mem_cons_of_mem _ List.mem_cons_self, rfl, rfl⟩
  · exact ⟨b3, List.mem_cons_of_mem _ (List.mem_cons_of_mem _ List.mem_cons_self), rfl, rfl⟩
  · exact ⟨b4, List.mem_cons_of_mem _ (List.mem_cons_of_mem _ (List.mem_cons_of_mem _ List.mem_cons_self)), rfl, rfl⟩
theorem qU_lt {V : Nat} {T : sT} (hT : sOk V T) {q : Nat} (hq : q < nQ T) : qU T (cQ2 T q) < 32768 := by
  obtain ⟨g1, g2, g3⟩ := fL_get (B := qdB T) 42875 q hq
  obtain ⟨⟨⟨b1, b2, b3, b4⟩, -⟩, -, -, hRn⟩ := qd_X hT g2 g1
  unfold qU
  rw [hRn]
  exact Nat.or_lt_two_pow (n := 15) (Nat.or_lt_two_pow (n := 15) (mN_lt hT b1).1 (mN_lt hT b2).1) (mN_lt hT b4).1
theorem k_qpE {d V q : Nat} {T : sT} {hp : amH} {R : xQ} {a : Int32} (hH : bHk 84 bTT hp) (hT : sOk V T) (hL : rlN hp T 225) (hQ : rqN hp T 42875) (hq : q < nQ T) (ha : a.toInt = (q : Int)) (hR : ∀ z : Int32, z.toInt = ((qU T (cQ2 T q) : Nat) : Int) → R (.inl (some (.int z))) hp) : xK d 218 [.ref 66, .int a] hp R := by
  have h105 := q105 hT
  have l35 := trL_35 hT 225
  have hq2 : q < (fL (qdB T) 42875).length := hq
  obtain ⟨hk, -⟩ := rq_get hT hQ hq
  have hl := qL_lt hT hq
  have LM : ∀ t, t < (trL T 225).length → rN hp 75 t = ((mN T t : Nat) : Int) := fun t ht => (hL.2 t ht).2.2.2
  obtain ⟨g1, g2, g3⟩ := fL_get (B := qdB T) 42875 q hq
  have hu := qU_4 hT g2 g1
  have k0 := hk 0 (by omega)
  have k1 := hk 1 (by omega)
  have k2 := hk 2 (by omega)
  have k3 := hk 3 (by omega)
  have l0 := (hl 0 (by omega)).1
  have l1 := (hl 1 (by omega)).1
  have l2 := (hl 2 (by omega)).1
  have l3 := (hl 3 (by omega)).1
  have m0 := (mN_lt hT l0).1
  have m1 := (mN_lt hT l1).1
  have m2 := (mN_lt hT l2).1
  have m3' := (mN_lt hT l3).1
  have hu : mN T ((qL T (cQ2 T q)).getD 0 0) ||| mN T ((qL T (cQ2 T q)).getD 1 0) ||| mN T ((qL T (cQ2 T q)).getD 2 0) ||| mN T ((qL T (cQ2 T q)).getD 3 0) = qU T (cQ2 T q) := hu
  generalize (qL T (cQ2 T q)).getD 0 0 = t0 at *
  generalize (qL T (cQ2 T q)).getD 1 0 = t1 at *
  generalize (qL T (cQ2 T q)).getD 2 0 = t2 at *
  generalize (qL T (cQ2 T q)).getD 3 0 = t3 at *
  rw [Nat.add_zero] at k0
  refine xin (M := am_m218) rfl rfl rfl ?_
  refine xald 1 ⟨u218, _, rfl⟩ rfl rfl ?_
  refine xgetR 4 75 hH ⟨u218, _, rfl⟩ rfl rfl ?_
  refine xald 5 ⟨u218, _, rfl⟩ rfl rfl ?_
  refine xgetR 8 76 hH ⟨u218, _, rfl⟩ rfl rfl ?_
  refine xcst 9 (4) ⟨u218, _, rfl⟩ rfl (by decide) (fun z8 h8 => ?_)
  refine xild 10 ⟨u218, _, rfl⟩ rfl rfl ?_
  refine xmul 11 (4 * Int32.toInt a) ⟨u218, _, rfl⟩ rfl (by rw [h8]) (by omega) (by omega) (fun z10 h10 => ?_)
  refine xiald 12 (z10).toInt.toNat hH ⟨u218, _, rfl⟩ rfl (by decide) rfl (by omega) (by omega) (fun z11 h11 => ?_)
  rw [show z10.toInt.toNat = 4 * q by omega, k0] at h11
  refine xiald 13 (z11).toInt.toNat hH ⟨u218, _, rfl⟩ rfl (by decide) rfl (by omega) (by omega) (fun z12 h12 => ?_)
  rw [show z11.toInt.toNat = t0 by omega, LM t0 l0] at h12
  refine xald 14 ⟨u218, _, rfl⟩ rfl rfl ?_
  refine xgetR 17 75 hH ⟨u218, _, rfl⟩ rfl rfl ?_
  refine xald 18 ⟨u218, _, rfl⟩ rfl rfl ?_
  refine xgetR 21 76 hH ⟨u218, _, rfl⟩ rfl rfl ?_
  refine xcst 22 (4) ⟨u218, _, rfl⟩ rfl (by decide) (fun z21 h21 => ?_)
  refine xild 23 ⟨u218, _, rfl⟩ rfl rfl ?_
  refine xmul 24 (4 * Int32.toInt a) ⟨u218, _, rfl⟩ rfl (by rw [h21]) (by omega) (by omega) (fun z23 h23 => ?_)
  refine xcst 25 (1) ⟨u218, _, rfl⟩ rfl (by decide) (fun z24 h24 => ?_)
  refine xadd 26 _ ⟨u218, _, rfl⟩ rfl rfl (by omega) (by omega) (fun z25 h25 => ?_)
  refine xiald 27 (z25).toInt.toNat hH ⟨u218, _, rfl⟩ rfl (by decide) rfl (by omega) (by omega) (fun z26 h26 => ?_)
  rw [show z25.toInt.toNat = 4 * q + 1 by omega, k1] at h26
  refine xiald 28 (z26).toInt.toNat hH ⟨u218, _, rfl⟩ rfl (by decide) rfl (by omega) (by omega) (fun z27 h27 => ?_)
  rw [show z26.toInt.toNat = t1 by omega, LM t1 l1] at h27
  refine xor_ 29 ⟨u218, _, rfl⟩ rfl ?_
  have o1 := i_or h12 h27 m0 m1
  refine xald 30 ⟨u218, _, rfl⟩ rfl rfl ?_
  refine xgetR 33 75 hH ⟨u218, _, rfl⟩ rfl rfl ?_
  refine xald 34 ⟨u218, _, rfl⟩ rfl rfl ?_
  refine xgetR 37 76 hH ⟨u218, _, rfl⟩ rfl rfl ?_
  refine xcst 38 (4) ⟨u218, _, rfl⟩ rfl (by decide) (fun z37 h37 => ?_)
  refine xild 39 ⟨u218, _, rfl⟩ rfl rfl ?_
  refine xmul 40 (4 * Int32.toInt a) ⟨u218, _, rfl⟩ rfl (by rw [h37]) (by omega) (by omega) (fun z39 h39 => ?_)
  refine xcst 41 (2) ⟨u218, _, rfl⟩ rfl (by decide) (fun z40 h40 => ?_)
  refine xadd 42 _ ⟨u218, _, rfl⟩ rfl rfl (by omega) (by omega) (fun z41 h41 => ?_)
  refine xiald 43 (z41).toInt.toNat hH ⟨u218, _, rfl⟩ rfl (by decide) rfl (by omega) (by omega) (fun z42 h42 => ?_)
  rw [show z41.toInt.toNat = 4 * q + 2 by omega, k2] at h42
  refine xiald 44 (z42).toInt.toNat hH ⟨u218, _, rfl⟩ rfl (by decide) rfl (by omega) (by omega) (fun z43 h43 => ?_)
  rw [show z42.toInt.toNat = t2 by omega, LM t2 l2] at h43
  refine xor_ 45 ⟨u218, _, rfl⟩ rfl ?_
  have o2 := i_or o1.1 h43 o1.2 m2
  refine xald 46 ⟨u218, _, rfl⟩ rfl rfl ?_
  refine xgetR 49 75 hH ⟨u218, _, rfl⟩ rfl rfl ?_
  refine xald 50 ⟨u218, _, rfl⟩ rfl rfl ?_
  refine xgetR 53 76 hH ⟨u218, _, rfl⟩ rfl rfl ?_
  refine xcst 54 (4) ⟨u218, _, rfl⟩ rfl (by decide) (fun z53 h53 => ?_)
  refine xild 55 ⟨u218, _, rfl⟩ rfl rfl ?_
  refine xmul 56 (4 * Int32.toInt a) ⟨u218, _, rfl⟩ rfl (by rw [h53]) (by omega) (by omega) (fun z55 h55 => ?_)
  refine xcst 57 (3) ⟨u218, _, rfl⟩ rfl (by decide) (fun z56 h56 => ?_)
  refine xadd 58 _ ⟨u218, _, rfl⟩ rfl rfl (by omega) (by omega) (fun z57 h57 => ?_)
  refine xiald 59 (z57).toInt.toNat hH ⟨u218, _, rfl⟩ rfl (by decide) rfl (by omega) (by omega) (fun z58 h58 => ?_)
  rw [show z57.toInt.toNat = 4 * q + 3 by omega, k3] at h58
  refine xiald 60 (z58).toInt.toNat hH ⟨u218, _, rfl⟩ rfl (by decide) rfl (by omega) (by omega) (fun z59 h59 => ?_)
  rw [show z58.toInt.toNat = t3 by omega, LM t3 l3] at h59
  refine xor_ 61 ⟨u218, _, rfl⟩ rfl ?_
  have o3 := i_or o2.1 h59 o2.2 m3'
  exact xret ⟨u218, _, rfl⟩ rfl (hR _ (by rw [o3.1, hu]))
theorem l219E {d V q u : Nat} {T : sT} {hp : amH} {R : xQ} {a b : Int32} (hH : bHk 84 bTT hp) (hT : sOk V T) (hL : rlN hp T 225) (hQ : rqN hp T 42875) (hq : q < nQ T) (ha : a.toInt = (q : Int)) (hb : b.toInt = (u : Int)) (hu : u < 15) (ho : opL T (cQ2 T q) u = 2 ^ oppQ T (cQ2 T q) u) (hlt : oppQ T (cQ2 T q) u < 15)
    (hR : ∀ z : Int32, z.toInt = ((oppQ T (cQ2 T q) u : Nat) : Int) → R (.inl (some (.int z))) hp) :
    ∀ (jj k : Nat) (w wk : Int32) (v5 : Option Value), wk.toInt = (k : Int) → k + jj = 4 → w.toInt = ((lfL u (ndif (qU T (cQ2 T q)) (2 ^ u)) ((qG T (cQ2 T q)).take k) : Nat) : Int) → xV (d + 1) am_m219 15 [some (.ref 66), some (.int a), some (.int b), some (.int w), some (.int wk), v5] [] hp R := by
  have h105 := q105 hT
  have l35 := trL_35 hT 225
  have hq2 : q < (fL (qdB T) 42875).length := hq
  have uU := qU_lt hT hq
  intro jj
  induction jj with
  | zero =>
    intro k w wk v5 hwk hj hw
    have et : k = 4 := by omega
    subst et
    have hw : w.toInt = ((opL T (cQ2 T q) u : Nat) : Int) := hw
    rw [ho] at hw
    refine xild2 17 ⟨u219, _, rfl⟩ rfl rfl ?_
    refine xcst 18 (4) ⟨u219, _, rfl⟩ rfl (by decide) (fun z17 h17 => ?_)
    refine xcmp_ge 21 ⟨u219, _, rfl⟩ rfl (fun c18 => ?_) (fun c18 => ?_)
    · refine xild 63 ⟨u219, _, rfl⟩ rfl rfl ?_
      refine xcallS 66 [.int _] [] hH ⟨u219, _, rfl⟩ rfl rfl rfl rfl rfl (k_ntz hw hlt (fun z63 h63 => ⟨_, rfl, ?_⟩))
      exact xret ⟨u219, _, rfl⟩ rfl (hR _ h63)
    · omega
  | succ jj ih =>
    intro k w wk v5 hwk hj hw
    obtain ⟨hk, -⟩ := rq_get hT hQ hq
    obtain ⟨l1, l2, l3, l4⟩ := qL_lt hT hq k (by omega)
    have kk := hk k (by omega)
    have ml := (mN_lt hT l1).1
    have LM : rN hp 75 ((qL T (cQ2 T q)).getD k 0) = ((mN T ((qL T (cQ2 T q)).getD k 0) : Nat) : Int) := (hL.2 _ l1).2.2.2
    have ap : lfL u (ndif (qU T (cQ2 T q)) (2 ^ u)) ((qG T (cQ2 T q)).take (k + 1)) = if (mN T ((qL T (cQ2 T q)).getD k 0)).testBit u = true then ndif (lfL u (ndif (qU T (cQ2 T q)) (2 ^ u)) ((qG T (cQ2 T q)).take k)) (mN T ((qL T (cQ2 T q)).getD k 0)) else lfL u (ndif (qU T (cQ2 T q)) (2 ^ u)) ((qG T (cQ2 T q)).take k) := by
      rw [tk_succ (show k < (qG T (cQ2 T q)).length by show k < 4; omega), l3]
      exact lfL_app
    have lf := lfL_lt (p := u) (A := (qG T (cQ2 T q)).take k) (nd_lt (n := 2 ^ u) uU)
    generalize (qL T (cQ2 T q)).getD k 0 = t at *
    refine xild2 17 ⟨u219, _, rfl⟩ rfl rfl ?_
    refine xcst 18 (4) ⟨u219, _, rfl⟩ rfl (by decide) (fun z17 h17 => ?_)
    refine xcmp_ge 21 ⟨u219, _, rfl⟩ rfl (fun c18 => ?_) (fun c18 => ?_)
    · omega
    · refine xald 22 ⟨u219, _, rfl⟩ rfl rfl ?_
      refine xgetR 25 75 hH ⟨u219, _, rfl⟩ rfl rfl ?_
      refine xald 26 ⟨u219, _, rfl⟩ rfl rfl ?_
      refine xgetR 29 76 hH ⟨u219, _, rfl⟩ rfl rfl ?_
      refine xcst 30 (4) ⟨u219, _, rfl⟩ rfl (by decide) (fun z29 h29 => ?_)
      refine xild 31 ⟨u219, _, rfl⟩ rfl rfl ?_
      refine xmul 32 (4 * Int32.toInt a) ⟨u219, _, rfl⟩ rfl (by rw [h29]) (by omega) (by omega) (fun z31 h31 => ?_)
      refine xild2 34 ⟨u219, _, rfl⟩ rfl rfl ?_
      refine xadd 35 _ ⟨u219, _, rfl⟩ rfl rfl (by omega) (by omega) (fun z34 h34 => ?_)
      refine xiald 36 (z34).toInt.toNat hH ⟨u219, _, rfl⟩ rfl (by decide) rfl (by omega) (by omega) (fun z35 h35 => ?_)
      rw [show z34.toInt.toNat = 4 * q + k by omega, kk] at h35
      refine xiald 37 (z35).toInt.toNat hH ⟨u219, _, rfl⟩ rfl (by decide) rfl (by omega) (by omega) (fun z36 h36 => ?_)
      rw [show z35.toInt.toNat = t by omega, LM] at h36
      refine xist2 39 ⟨u219, _, rfl⟩ rfl rfl ?_
      refine xild2 41 ⟨u219, _, rfl⟩ rfl rfl ?_
      refine xild 42 ⟨u219, _, rfl⟩ rfl rfl ?_
      refine xshr 43 ⟨u219, _, rfl⟩ rfl ?_
      refine xcst 44 (1) ⟨u219, _, rfl⟩ rfl (by decide) (fun z43 h43 => ?_)
      refine xand 45 ⟨u219, _, rfl⟩ rfl ?_
      have tb := i_bit h36 ml hb hu h43
      refine xcst 46 (1) ⟨u219, _, rfl⟩ rfl (by decide) (fun z45 h45 => ?_)
      refine xcmp_ne 49 ⟨u219, _, rfl⟩ rfl (fun c46 => ?_) (fun c46 => ?_)
      · have nb : ¬ (mN T t).testBit u = true := fun z => by rw [if_pos z] at tb; omega
        rw [if_neg nb] at ap
        refine xinc 59 (1) ⟨u219, _, rfl⟩ rfl rfl rfl (by decide) (by omega) (by omega) (fun z56 h56 => ?_)
        refine xgoto ⟨u219, _, rfl⟩ ?_
        exact ih (k + 1) w z56 _ (by omega) (by omega) (by rw [ap]; exact hw)
      · have nb : (mN T t).testBit u = true := by
          cases e : (mN T t).testBit u
          · rw [e] at tb; simp at tb; omega
          · rfl
        rw [if_pos nb] at ap
        refine xild 50 ⟨u219, _, rfl⟩ rfl rfl ?_
        refine xild2 52 ⟨u219, _, rfl⟩ rfl rfl ?_
        refine xcst 53 (-1) ⟨u219, _, rfl⟩ rfl (by decide) (fun z52 h52 => ?_)
        refine xxor 54 ⟨u219, _, rfl⟩ rfl ?_
        refine xand 55 ⟨u219, _, rfl⟩ rfl ?_
        refine xist 56 ⟨u219, _, rfl⟩ rfl rfl ?_
        refine xinc 59 (1) ⟨u219, _, rfl⟩ rfl rfl rfl (by decide) (by omega) (by omega) (fun z56 h56 => ?_)
        refine xgoto ⟨u219, _, rfl⟩ ?_
        exact ih (k + 1) (w &&& (z36 ^^^ z52)) z56 _ (by omega) (by omega) (by rw [ap]; exact i_nd hw h36 lf (by omega) h52)
theorem k_opE {d V q u : Nat} {T : sT} {hp : amH} {R : xQ} {a b : Int32} (hH : bHk 84 bTT hp) (hT : sOk V T) (hL : rlN hp T 225) (hQ : rqN hp T 42875) (hq : q < nQ T) (ha : a.toInt = (q : Int)) (hb : b.toInt = (u : Int)) (hu : u < 15) (ho : opL T (cQ2 T q) u = 2 ^ oppQ T (cQ2 T q) u) (hlt : oppQ T (cQ2 T q) u < 15)
    (hR : ∀ z : Int32, z.toInt = ((oppQ T (cQ2 T q) u : Nat) : Int) → R (.inl (some (.int z))) hp) : xK (d + 1) 219 [.ref 66, .int a, .int b] hp R := by
  have uU := qU_lt hT hq
  have p2 : 2 ^ u ≤ 2 ^ 15 := Nat.pow_le_pow_right (by decide) (by omega)
  refine xin (M := am_m219) rfl rfl rfl ?_
  refine xald 1 ⟨u219, _, rfl⟩ rfl rfl ?_
  refine xild 2 ⟨u219, _, rfl⟩ rfl rfl ?_
  refine xcall 5 [.ref 66, .int _] [] hH ⟨u219, _, rfl⟩ rfl rfl rfl rfl rfl (k_qpE hH hT hL hQ hq ha (fun z2 h2 => ⟨_, rfl, ?_⟩))
  refine xcst 6 (1) ⟨u219, _, rfl⟩ rfl (by decide) (fun z5 h5 => ?_)
  refine xild 7 ⟨u219, _, rfl⟩ rfl rfl ?_
  refine xshl 8 ⟨u219, _, rfl⟩ rfl ?_
  refine xcst 9 (-1) ⟨u219, _, rfl⟩ rfl (by decide) (fun z8 h8 => ?_)
  refine xxor 10 ⟨u219, _, rfl⟩ rfl ?_
  refine xand 11 ⟨u219, _, rfl⟩ rfl ?_
  have nn := i_nd h2 (i_shl h5 hb hu).1 uU (by omega) h8
  refine xist 12 ⟨u219, _, rfl⟩ rfl rfl ?_
  refine xcst 13 (0) ⟨u219, _, rfl⟩ rfl (by decide) (fun z12 h12 => ?_)
  refine xist2 15 ⟨u219, _, rfl⟩ rfl rfl ?_
  refine xpad 1 ?_
  exact l219E hH hT hL hQ hq ha hb hu ho hlt hR 4 0 _ _ _ h12 (by omega) nn
/-- a point of a triple by its place -/
noncomputable def c3 (T : sT) (t r : Nat) : Nat := if r = 0 then (trL T 225).getD t 0 / 15 else if r = 1 then (trL T 225).getD t 0 % 15 else (T ((trL T 225).getD t 0 / 15) ((trL T 225).getD t 0 % 15)).toNat
theorem c3_s {V : Nat} {T : sT} (hT : sOk V T) {t : Nat} (ht : t < (trL T 225).length) : c3 T t 0 < c3 T t 1 ∧ c3 T t 1 < c3 T t 2 ∧ c3 T t 2 < V ∧ mN T t = m3 (c3 T t 0) (c3 T t 1) (c3 T t 2) ∧ T (c3 T t 0) (c3 T t 1) = ((c3 T t 2 : Nat) : Int) := by
  obtain ⟨g1, g2, g3⟩ := trL_get 225 t ht
  obtain ⟨z, ez, h1, h2, h3⟩ := tr_pts hT g1
  have e : c3 T t 2 = z := by show (T ((trL T 225).getD t 0 / 15) ((trL T 225).getD t 0 % 15)).toNat = z; rw [ez, Int.toNat_natCast]
  rw [e]
  refine ⟨h1, h2, h3, ?_, ez⟩
  show mk3 T ((trL T 225).getD t 0) = _
  unfold mk3
  rw [ez, Int.toNat_natCast]
  rfl
theorem c3_r {hp : amH} {V : Nat} {T : sT} (hT : sOk V T) (hL : rlN hp T 225) {t : Nat} (ht : t < (trL T 225).length) : rN hp 72 t = ((c3 T t 0 : Nat) : Int) ∧ rN hp 73 t = ((c3 T t 1 : Nat) : Int) ∧ rN hp 74 t = ((c3 T t 2 : Nat) : Int) := by
  obtain ⟨a, b, c, -⟩ := hL.2 t ht
  obtain ⟨-, -, -, -, e⟩ := c3_s hT ht
  exact ⟨a, b, c.trans e⟩
/-- what the reference lays for a switch -/
noncomputable def rpv (T : sT) (n j : Nat) : Nat := if j % 6 < 3 then c3 T ((qL T n).getD (j / 6) 0) (j % 6) else oppQ T n (c3 T ((qL T n).getD (j / 6) 0) (j % 6 - 3))
theorem rpv_s (T : sT) (n k : Nat) : rpv T n (6 * k) = c3 T ((qL T n).getD k 0) 0 ∧ rpv T n (6 * k + 1) = c3 T ((qL T n).getD k 0) 1 ∧ rpv T n (6 * k + 2) = c3 T ((qL T n).getD k 0) 2 ∧ rpv T n (6 * k + 3) = oppQ T n (c3 T ((qL T n).getD k 0) 0) ∧ rpv T n (6 * k + 4) = oppQ T n (c3 T ((qL T n).getD k 0) 1) ∧ rpv T n (6 * k + 5) = oppQ T n (c3 T ((qL T n).getD k 0) 2) := by
  unfold rpv
  refine ⟨?_, ?_, ?_, ?_, ?_, ?_⟩
  · rw [show 6 * k % 6 = 0 by omega, show 6 * k / 6 = k by omega, if_pos (by omega)]
  · rw [show (6 * k + 1) % 6 = 1 by omega, show (6 * k + 1) / 6 = k by omega, if_pos (by omega)]
  · rw [show (6 * k + 2) % 6 = 2 by omega, show (6 * k + 2) / 6 = k by omega, if_pos (by omega)]
  · rw [show (6 * k + 3) % 6 = 3 by omega, show (6 * k + 3) / 6 = k by omega, if_neg (by omega)]
  · rw [show (6 * k + 4) % 6 = 4 by omega, show (6 * k + 4) / 6 = k by omega, if_neg (by omega)]
  · rw [show (6 * k + 5) % 6 = 5 by omega, show (6 * k + 5) / 6 = k by omega, if_neg (by omega)]
/-- the points of a quadrilateral's triples and their opposites -/
theorem op_all {V : Nat} {T : sT} (hT : sOk V T) {q k : Nat} (hq : q < nQ T) (hk : k < 4) : (∀ r, r < 3 → c3 T ((qL T (cQ2 T q)).getD k 0) r < V ∧ opL T (cQ2 T q) (c3 T ((qL T (cQ2 T q)).getD k 0) r) = 2 ^ oppQ T (cQ2 T q) (c3 T ((qL T (cQ2 T q)).getD k 0) r) ∧ oppQ T (cQ2 T q) (c3 T ((qL T (cQ2 T q)).getD k 0) r) < V) ∧ (qC T (cQ2 T q)).getD k 0 = m3 (oppQ T (cQ2 T q) (c3 T ((qL T (cQ2 T q)).getD k 0) 0)) (oppQ T (cQ2 T q) (c3 T ((qL T (cQ2 T q)).getD k 0) 1)) (oppQ T (cQ2 T q) (c3 T ((qL T (cQ2 T q)).getD k 0) 2)) ∧ ¬ oppQ T (cQ2 T q) (c3 T ((qL T (cQ2 T q)).getD k 0) 0) = oppQ T (cQ2 T q) (c3 T ((qL T (cQ2 T q)).getD k 0) 1) ∧ ¬ oppQ T (cQ2 T q) (c3 T ((qL T (cQ2 T q)).getD k 0) 1) = oppQ T (cQ2 T q) (c3 T ((qL T (cQ2 T q)).getD k 0) 2) ∧ ¬ oppQ T (cQ2 T q) (c3 T ((qL T (cQ2 T q)).getD k 0) 0) = oppQ T (cQ2 T q) (c3 T ((qL T (cQ2 T q)).getD k 0) 2) := by
  obtain ⟨g1, g2, g3⟩ := fL_get (B := qdB T) 42875 q hq
  obtain ⟨l1, l2, l3, l4⟩ := qL_lt hT hq k hk
  obtain ⟨s1, s2, s3, s4, s5⟩ := c3_s hT l1
  obtain ⟨o1, o2, o3, o4, o5⟩ := opp_3 hT g2 g1 l2 s4 (by omega) (by omega) (by omega)
  refine ⟨fun r hr => ?_, l4.trans o2, o3, o4, o5⟩
  have : r = 0 ∨ r = 1 ∨ r = 2 := by omega
  rcases this with rfl | rfl | rfl
  · exact ⟨by omega, (o1 _ (Or.inl rfl)).2⟩
  · exact ⟨by omega, (o1 _ (Or.inr (Or.inl rfl))).2⟩
  · exact ⟨by omega, (o1 _ (Or.inr (Or.inr rfl))).2⟩
theorem l220x {d V q : Nat} {T : sT} {hp0 : amH} {R : xQ} {a : Int32} (hT : sOk V T) (hL0 : rlN hp0 T 225) (hQ0 : rqN hp0 T 42875) (hq : q < nQ T) (ha : a.toInt = (q : Int))
    (hR : ∀ (w : Int32) (v3 : Option Value) hp1, bHk 84 bTT hp1 → bFr [(77, 999)] hp0 hp1 → (∀ j, j < 24 → rN hp1 77 j = ((rpv T (cQ2 T q) j : Nat) : Int)) → xV (d + 2) am_m220 139 [some (.ref 66), some (.int a), some (.int w), v3] [] hp1 R) :
    ∀ (jj k : Nat) (w : Int32) (v3 : Option Value) (hp : amH), w.toInt = (k : Int) → k + jj = 4 → bHk 84 bTT hp → bFr [(77, 999)] hp0 hp → (∀ j, j < 6 * k → rN hp 77 j = ((rpv T (cQ2 T q) j : Nat) : Int)) → xV (d + 2) am_m220 2 [some (.ref 66), some (.int a), some (.int w), v3] [] hp R := by
  have h105 := q105 hT
  have l35 := trL_35 hT 225
  have hq2 : q < (fL (qdB T) 42875).length := hq
  have hV := hT.2.1
  intro jj
  induction jj with
  | zero =>
    intro k w v3 hp hw hj hH hF hP
    have et : k = 4 := by omega
    subst et
    refine xild 3 ⟨u220, _, rfl⟩ rfl rfl ?_
    refine xcst 4 (4) ⟨u220, _, rfl⟩ rfl (by decide) (fun z3 h3 => ?_)
    refine xcmp_ge 7 ⟨u220, _, rfl⟩ rfl (fun c4 => ?_) (fun c4 => ?_)
    · exact hR _ _ hp hH hF hP
    · omega
  | succ jj ih =>
    intro k w v3 hp hw hj hH hF hP
    have hL : rlN hp T 225 := rlN_fr hL0 (r_fr hF rfl) (fun _ => r_fr hF rfl) (fun _ => r_fr hF rfl) (fun _ => r_fr hF rfl) (fun _ => r_fr hF rfl)
    have hQ : rqN hp T 42875 := rqN_fr hQ0 (r_fr hF rfl) (fun _ => r_fr hF rfl)
    obtain ⟨hk, -⟩ := rq_get hT hQ hq
    have kk := hk k (by omega)
    obtain ⟨l1, l2, l3, l4⟩ := qL_lt hT hq k (by omega)
    obtain ⟨ho, -⟩ := op_all hT hq (show k < 4 by omega)
    obtain ⟨r1, r2, r3⟩ := c3_r hT hL l1
    obtain ⟨p0, p1, p2, p3, p4, p5⟩ := rpv_s T (cQ2 T q) k
    obtain ⟨a0, b0, d0⟩ := ho 0 (by omega)
    obtain ⟨a1, b1, d1⟩ := ho 1 (by omega)
    obtain ⟨a2, b2, d2⟩ := ho 2 (by omega)
    generalize (qL T (cQ2 T q)).getD k 0 = t at *
    refine xild 3 ⟨u220, _, rfl⟩ rfl rfl ?_
    refine xcst 4 (4) ⟨u220, _, rfl⟩ rfl (by decide) (fun z3 h3 => ?_)
    refine xcmp_ge 7 ⟨u220, _, rfl⟩ rfl (fun c4 => ?_) (fun c4 => ?_)
    · omega
    · refine xald 8 ⟨u220, _, rfl⟩ rfl rfl ?_
      refine xgetR 11 76 hH ⟨u220, _, rfl⟩ rfl rfl ?_
      refine xcst 12 (4) ⟨u220, _, rfl⟩ rfl (by decide) (fun z11 h11 => ?_)
      refine xild 13 ⟨u220, _, rfl⟩ rfl rfl ?_
      refine xmul 14 (4 * Int32.toInt a) ⟨u220, _, rfl⟩ rfl (by rw [h11]) (by omega) (by omega) (fun z13 h13 => ?_)
      refine xild 15 ⟨u220, _, rfl⟩ rfl rfl ?_
      refine xadd 16 _ ⟨u220, _, rfl⟩ rfl rfl (by omega) (by omega) (fun z15 h15 => ?_)
      refine xiald 17 (z15).toInt.toNat hH ⟨u220, _, rfl⟩ rfl (by decide) rfl (by omega) (by omega) (fun z16 h16 => ?_)
      rw [show z15.toInt.toNat = 4 * q + k by omega, kk] at h16
      refine xist 18 ⟨u220, _, rfl⟩ rfl rfl ?_
      refine xald 19 ⟨u220, _, rfl⟩ rfl rfl ?_
      refine xgetR 22 77 hH ⟨u220, _, rfl⟩ rfl rfl ?_
      refine xbip 24 (6) ⟨u220, _, rfl⟩ rfl (by decide) (fun z22 h22 => ?_)
      refine xild 25 ⟨u220, _, rfl⟩ rfl rfl ?_
      refine xmul 26 (6 * Int32.toInt w) ⟨u220, _, rfl⟩ rfl (by rw [h22]) (by omega) (by omega) (fun z25 h25 => ?_)
      refine xald 27 ⟨u220, _, rfl⟩ rfl rfl ?_
      refine xgetR 30 72 hH ⟨u220, _, rfl⟩ rfl rfl ?_
      refine xild 31 ⟨u220, _, rfl⟩ rfl rfl ?_
      refine xiald 32 (z16).toInt.toNat hH ⟨u220, _, rfl⟩ rfl (by decide) rfl (by omega) (by omega) (fun z31 h31 => ?_)
      rw [show z16.toInt.toNat = t by omega, r1] at h31
      refine xiast 33 (z25).toInt.toNat hH ⟨u220, _, rfl⟩ rfl (by decide) rfl (by omega) (by omega) (by omega) (by omega) (fun hp32 hH32 U32 => ?_)
      rw [show z25.toInt.toNat = 6 * k by omega] at U32
      clear h11 h13 h15 h22 h25
      refine xald 34 ⟨u220, _, rfl⟩ rfl rfl ?_
      refine xgetR 37 77 hH32 ⟨u220, _, rfl⟩ rfl rfl ?_
      refine xbip 39 (6) ⟨u220, _, rfl⟩ rfl (by decide) (fun z37 h37 => ?_)
      refine xild 40 ⟨u220, _, rfl⟩ rfl rfl ?_
      refine xmul 41 (6 * Int32.toInt w) ⟨u220, _, rfl⟩ rfl (by rw [h37]) (by omega) (by omega) (fun z40 h40 => ?_)
      refine xcst 42 (1) ⟨u220, _, rfl⟩ rfl (by decide) (fun z41 h41 => ?_)
      refine xadd 43 _ ⟨u220, _, rfl⟩ rfl rfl (by omega) (by omega) (fun z42 h42 => ?_)
      refine xald 44 ⟨u220, _, rfl⟩ rfl rfl ?_
      refine xgetR 47 73 hH32 ⟨u220, _, rfl⟩ rfl rfl ?_
      refine xild 48 ⟨u220, _, rfl⟩ rfl rfl ?_
      refine xiald 49 (z16).toInt.toNat hH32 ⟨u220, _, rfl⟩ rfl (by decide) rfl (by omega) (by omega) (fun z48 h48 => ?_)
      rw [show z16.toInt.toNat = t by omega, rU_ne U32 (by first | decide | exact (fun z => absurd z.1 (by decide)) | omega), r2] at h48
      refine xiast 50 (z42).toInt.toNat hH32 ⟨u220, _, rfl⟩ rfl (by decide) rfl (by omega) (by omega) (by omega) (by omega) (fun hp49 hH49 U49 => ?_)
      rw [show z42.toInt.toNat = 6 * k + 1 by omega] at U49
      clear h37 h40 h41 h42
      refine xald 51 ⟨u220, _, rfl⟩ rfl rfl ?_
      refine xgetR 54 77 hH49 ⟨u220, _, rfl⟩ rfl rfl ?_
      refine xbip 56 (6) ⟨u220, _, rfl⟩ rfl (by decide) (fun z54 h54 => ?_)
      refine xild 57 ⟨u220, _, rfl⟩ rfl rfl ?_
      refine xmul 58 (6 * Int32.toInt w) ⟨u220, _, rfl⟩ rfl (by rw [h54]) (by omega) (by omega) (fun z57 h57 => ?_)
      refine xcst 59 (2) ⟨u220, _, rfl⟩ rfl (by decide) (fun z58 h58 => ?_)
      refine xadd 60 _ ⟨u220, _, rfl⟩ rfl rfl (by omega) (by omega) (fun z59 h59 => ?_)
      refine xald 61 ⟨u220, _, rfl⟩ rfl rfl ?_
      refine xgetR 64 74 hH49 ⟨u220, _, rfl⟩ rfl rfl ?_
      refine xild 65 ⟨u220, _, rfl⟩ rfl rfl ?_
      refine xiald 66 (z16).toInt.toNat hH49 ⟨u220, _, rfl⟩ rfl (by decide) rfl (by omega) (by omega) (fun z65 h65 => ?_)
      rw [show z16.toInt.toNat = t by omega, rU_ne U49 (by first | decide | exact (fun z => absurd z.1 (by decide)) | omega), rU_ne U32 (by first | decide | exact (fun z => absurd z.1 (by decide)) | omega), r3] at h65
      refine xiast 67 (z59).toInt.toNat hH49 ⟨u220, _, rfl⟩ rfl (by decide) rfl (by omega) (by omega) (by omega) (by omega) (fun hp66 hH66 U66 => ?_)
      rw [show z59.toInt.toNat = 6 * k + 2 by omega] at U66
      clear h54 h57 h58 h59
      have F66 : bFr [(77, 999)] hp hp66 := ((rU_fr U32 (bIn_all (by decide) _)).trans (rU_fr U49 (bIn_all (by decide) _))).trans (rU_fr U66 (bIn_all (by decide) _))
      have hL66 : rlN hp66 T 225 := rlN_fr hL (r_fr F66 rfl) (fun _ => r_fr F66 rfl) (fun _ => r_fr F66 rfl) (fun _ => r_fr F66 rfl) (fun _ => r_fr F66 rfl)
      have hQ66 : rqN hp66 T 42875 := rqN_fr hQ (r_fr F66 rfl) (fun _ => r_fr F66 rfl)
      refine xald 68 ⟨u220, _, rfl⟩ rfl rfl ?_
      refine xgetR 71 77 hH66 ⟨u220, _, rfl⟩ rfl rfl ?_
      refine xbip 73 (6) ⟨u220, _, rfl⟩ rfl (by decide) (fun z71 h71 => ?_)
      refine xild 74 ⟨u220, _, rfl⟩ rfl rfl ?_
      refine xmul 75 (6 * Int32.toInt w) ⟨u220, _, rfl⟩ rfl (by rw [h71]) (by omega) (by omega) (fun z74 h74 => ?_)
      refine xcst 76 (3) ⟨u220, _, rfl⟩ rfl (by decide) (fun z75 h75 => ?_)
      refine xadd 77 _ ⟨u220, _, rfl⟩ rfl rfl (by omega) (by omega) (fun z76 h76 => ?_)
      refine xald 78 ⟨u220, _, rfl⟩ rfl rfl ?_
      refine xild 79 ⟨u220, _, rfl⟩ rfl rfl ?_
      refine xald 80 ⟨u220, _, rfl⟩ rfl rfl ?_
      refine xgetR 83 72 hH66 ⟨u220, _, rfl⟩ rfl rfl ?_
      refine xild 84 ⟨u220, _, rfl⟩ rfl rfl ?_
      refine xiald 85 (z16).toInt.toNat hH66 ⟨u220, _, rfl⟩ rfl (by decide) rfl (by omega) (by omega) (fun z84 h84 => ?_)
      rw [show z16.toInt.toNat = t by omega, r_fr F66 rfl, r1] at h84
      refine xcall 88 [.ref 66, .int _, .int _] [.int _, .ref 77] hH66 ⟨u220, _, rfl⟩ rfl rfl rfl rfl rfl (k_opE hH66 hT hL66 hQ66 hq ha h84 (by omega) b0 (by omega) (fun z85 h85 => ⟨_, rfl, ?_⟩))
      refine xiast 89 (z76).toInt.toNat hH66 ⟨u220, _, rfl⟩ rfl (by decide) rfl (by omega) (by omega) (by omega) (by omega) (fun hp88 hH88 U88 => ?_)
      rw [show z76.toInt.toNat = 6 * k + 3 by omega] at U88
      clear h71 h74 h75 h76 h84
      have F88 : bFr [(77, 999)] hp hp88 := F66.trans (rU_fr U88 (bIn_all (by decide) _))
      have hL88 : rlN hp88 T 225 := rlN_fr hL (r_fr F88 rfl) (fun _ => r_fr F88 rfl) (fun _ => r_fr F88 rfl) (fun _ => r_fr F88 rfl) (fun _ => r_fr F88 rfl)
      have hQ88 : rqN hp88 T 42875 := rqN_fr hQ (r_fr F88 rfl) (fun _ => r_fr F88 rfl)
      refine xald 90 ⟨u220, _, rfl⟩ rfl rfl ?_
      refine xgetR 93 77 hH88 ⟨u220, _, rfl⟩ rfl rfl ?_
      refine xbip 95 (6) ⟨u220, _, rfl⟩ rfl (by decide) (fun z93 h93 => ?_)
      refine xild 96 ⟨u220, _, rfl⟩ rfl rfl ?_
      refine xmul 97 (6 * Int32.toInt w) ⟨u220, _, rfl⟩ rfl (by rw [h93]) (by omega) (by omega) (fun z96 h96 => ?_)
      refine xcst 98 (4) ⟨u220, _, rfl⟩ rfl (by decide) (fun z97 h97 => ?_)
      refine xadd 99 _ ⟨u220, _, rfl⟩ rfl rfl (by omega) (by omega) (fun z98 h98 => ?_)
      refine xald 100 ⟨u220, _, rfl⟩ rfl rfl ?_
      refine xild 101 ⟨u220, _, rfl⟩ rfl rfl ?_
      refine xald 102 ⟨u220, _, rfl⟩ rfl rfl ?_
      refine xgetR 105 73 hH88 ⟨u220, _, rfl⟩ rfl rfl ?_
      refine xild 106 ⟨u220, _, rfl⟩ rfl rfl ?_
      refine xiald 107 (z16).toInt.toNat hH88 ⟨u220, _, rfl⟩ rfl (by decide) rfl (by omega) (by omega) (fun z106 h106 => ?_)
      rw [show z16.toInt.toNat = t by omega, r_fr F88 rfl, r2] at h106
      refine xcall 110 [.ref 66, .int _, .int _] [.int _, .ref 77] hH88 ⟨u220, _, rfl⟩ rfl rfl rfl rfl rfl (k_opE hH88 hT hL88 hQ88 hq ha h106 (by omega) b1 (by omega) (fun z107 h107 => ⟨_, rfl, ?_⟩))
      refine xiast 111 (z98).toInt.toNat hH88 ⟨u220, _, rfl⟩ rfl (by decide) rfl (by omega) (by omega) (by omega) (by omega) (fun hp110 hH110 U110 => ?_)
      rw [show z98.toInt.toNat = 6 * k + 4 by omega] at U110
      clear h93 h96 h97 h98 h106
      have F110 : bFr [(77, 999)] hp hp110 := F88.trans (rU_fr U110 (bIn_all (by decide) _))
      have hL110 : rlN hp110 T 225 := rlN_fr hL (r_fr F110 rfl) (fun _ => r_fr F110 rfl) (fun _ => r_fr F110 rfl) (fun _ => r_fr F110 rfl) (fun _ => r_fr F110 rfl)
      have hQ110 : rqN hp110 T 42875 := rqN_fr hQ (r_fr F110 rfl) (fun _ => r_fr F110 rfl)
      refine xald 112 ⟨u220, _, rfl⟩ rfl rfl ?_
      refine xgetR 115 77 hH110 ⟨u220, _, rfl⟩ rfl rfl ?_
      refine xbip 117 (6) ⟨u220, _, rfl⟩ rfl (by decide) (fun z115 h115 => ?_)
      refine xild 118 ⟨u220, _, rfl⟩ rfl rfl ?_
      refine xmul 119 (6 * Int32.toInt w) ⟨u220, _, rfl⟩ rfl (by rw [h115]) (by omega) (by omega) (fun z118 h118 => ?_)
      refine xcst 120 (5) ⟨u220, _, rfl⟩ rfl (by decide) (fun z119 h119 => ?_)
      refine xadd 121 _ ⟨u220, _, rfl⟩ rfl rfl (by omega) (by omega) (fun z120 h120 => ?_)
      refine xald 122 ⟨u220, _, rfl⟩ rfl rfl ?_
      refine xild 123 ⟨u220, _, rfl⟩ rfl rfl ?_
      refine xald 124 ⟨u220, _, rfl⟩ rfl rfl ?_
      refine xgetR 127 74 hH110 ⟨u220, _, rfl⟩ rfl rfl ?_
      refine xild 128 ⟨u220, _, rfl⟩ rfl rfl ?_
      refine xiald 129 (z16).toInt.toNat hH110 ⟨u220, _, rfl⟩ rfl (by decide) rfl (by omega) (by omega) (fun z128 h128 => ?_)
      rw [show z16.toInt.toNat = t by omega, r_fr F110 rfl, r3] at h128
      refine xcall 132 [.ref 66, .int _, .int _] [.int _, .ref 77] hH110 ⟨u220, _, rfl⟩ rfl rfl rfl rfl rfl (k_opE hH110 hT hL110 hQ110 hq ha h128 (by omega) b2 (by omega) (fun z129 h129 => ⟨_, rfl, ?_⟩))
      refine xiast 133 (z120).toInt.toNat hH110 ⟨u220, _, rfl⟩ rfl (by decide) rfl (by omega) (by omega) (by omega) (by omega) (fun hp132 hH132 U132 => ?_)
      rw [show z120.toInt.toNat = 6 * k + 5 by omega] at U132
      clear h115 h118 h119 h120 h128
      refine xinc 136 (1) ⟨u220, _, rfl⟩ rfl rfl rfl (by decide) (by omega) (by omega) (fun z133 h133 => ?_)
      refine xgoto ⟨u220, _, rfl⟩ ?_
      refine ih (k + 1) z133 _ hp132 (by omega) (by omega) hH132 (hF.trans (F110.trans (rU_fr U132 (bIn_all (by decide) _)))) (fun j hj2 => ?_)
      have e132 := U132.1
      have e110 := U110.1
      have e88 := U88.1
      have e66 := U66.1
      have e49 := U49.1
      have e32 := U32.1
      by_cases j0 : j < 6 * k
      · rw [rU_ne U132 (by first | decide | exact (fun z => absurd z.1 (by decide)) | omega), rU_ne U110 (by first | decide | exact (fun z => absurd z.1 (by decide)) | omega), rU_ne U88 (by first | decide | exact (fun z => absurd z.1 (by decide)) | omega), rU_ne U66 (by first | decide | exact (fun z => absurd z.1 (by decide)) | omega), rU_ne U49 (by first | decide | exact (fun z => absurd z.1 (by decide)) | omega), rU_ne U32 (by first | decide | exact (fun z => absurd z.1 (by decide)) | omega)]
        exact hP j j0
      · have : j = 6 * k ∨ j = 6 * k + 1 ∨ j = 6 * k + 2 ∨ j = 6 * k + 3 ∨ j = 6 * k + 4 ∨ j = 6 * k + 5 := by omega
        rcases this with e | e | e | e | e | e
        · rw [rU_ne U132 (by first | decide | exact (fun z => absurd z.1 (by decide)) | omega), rU_ne U110 (by first | decide | exact (fun z => absurd z.1 (by decide)) | omega), rU_ne U88 (by first | decide | exact (fun z => absurd z.1 (by decide)) | omega), rU_ne U66 (by first | decide | exact (fun z => absurd z.1 (by decide)) | omega), rU_ne U49 (by first | decide | exact (fun z => absurd z.1 (by decide)) | omega), e, e32, p0]
          exact h31
        · rw [rU_ne U132 (by first | decide | exact (fun z => absurd z.1 (by decide)) | omega), rU_ne U110 (by first | decide | exact (fun z => absurd z.1 (by decide)) | omega), rU_ne U88 (by first | decide | exact (fun z => absurd z.1 (by decide)) | omega), rU_ne U66 (by first | decide | exact (fun z => absurd z.1 (by decide)) | omega), e, e49, p1]
          exact h48
        · rw [rU_ne U132 (by first | decide | exact (fun z => absurd z.1 (by decide)) | omega), rU_ne U110 (by first | decide | exact (fun z => absurd z.1 (by decide)) | omega), rU_ne U88 (by first | decide | exact (fun z => absurd z.1 (by decide)) | omega), e, e66, p2]
          exact h65
        · rw [rU_ne U132 (by first | decide | exact (fun z => absurd z.1 (by decide)) | omega), rU_ne U110 (by first | decide | exact (fun z => absurd z.1 (by decide)) | omega), e, e88, p3]
          exact h85
        · rw [rU_ne U132 (by first | decide | exact (fun z => absurd z.1 (by decide)) | omega), e, e110, p4]
          exact h107
        · rw [e, e132, p5]
          exact h129
theorem l220y {d V q : Nat} {T : sT} {ty : Nat → Int} {hp0 : amH} {R : xQ} {a : Int32} (hT : sOk V T) (hq : q < nQ T) (hA : ∀ j, j < 24 → rN hp0 77 j = ((rpv T (cQ2 T q) j : Nat) : Int)) (hG : tkOk T (qG T (cQ2 T q)))
    (hR : ∀ (w : Int32) (v3 : Option Value) hp1, bHk 84 bTT hp1 → P0 hp1 → bFr [(67, 999)] hp0 hp1 → rowOk (rN hp1 67) (V, uTs T (qG T (cQ2 T q)), ty) → xV (d + 2) am_m220 179 [some (.ref 66), some (.int a), some (.int w), v3] [] hp1 R) :
    ∀ (jj k : Nat) (w : Int32) (v3 : Option Value) (hp : amH), w.toInt = 6 * (k : Int) → k + jj = 4 → bHk 84 bTT hp → P0 hp → bFr [(67, 999)] hp0 hp → rowOk (rN hp 67) (V, uTs T ((qG T (cQ2 T q)).take k), ty) → xV (d + 2) am_m220 141 [some (.ref 66), some (.int a), some (.int w), v3] [] hp R := by
  intro jj
  induction jj with
  | zero =>
    intro k w v3 hp hw hj hH hP hF hC
    have et : k = 4 := by omega
    subst et
    refine xild 142 ⟨u220, _, rfl⟩ rfl rfl ?_
    refine xbip 144 (24) ⟨u220, _, rfl⟩ rfl (by decide) (fun z142 h142 => ?_)
    refine xcmp_ge 147 ⟨u220, _, rfl⟩ rfl (fun c144 => ?_) (fun c144 => ?_)
    · exact hR _ _ hp hH hP hF hC
    · omega
  | succ jj ih =>
    intro k w v3 hp hw hj hH hP hF hC
    obtain ⟨l1, l2, l3, l4⟩ := qL_lt hT hq k (by omega)
    obtain ⟨s1, s2, s3, s4, s5⟩ := c3_s hT l1
    obtain ⟨p0, p1, p2, p3, p4, p5⟩ := rpv_s T (cQ2 T q) k
    have hA2 : ∀ j, j < 24 → rN hp 77 j = ((rpv T (cQ2 T q) j : Nat) : Int) := fun j hj2 => (r_fr hF rfl).trans (hA j hj2)
    have ed : (qG T (cQ2 T q)).take (k + 1) = (qG T (cQ2 T q)).take k ++ [mN T ((qL T (cQ2 T q)).getD k 0)] := by rw [tk_succ (show k < (qG T (cQ2 T q)).length by show k < 4; omega), l3]
    have sp : qG T (cQ2 T q) = (qG T (cQ2 T q)).take k ++ mN T ((qL T (cQ2 T q)).getD k 0) :: (qG T (cQ2 T q)).drop (k + 1) := by
      have h4 : k < (qG T (cQ2 T q)).length := by show k < 4; omega
      have e := List.take_append_drop k (qG T (cQ2 T q))
      rw [List.drop_eq_getElem_cons h4] at e
      rw [List.getD_eq_getElem?_getD, List.getElem?_eq_getElem h4] at l3
      have l3 : (qG T (cQ2 T q))[k] = _ := l3
      rw [l3] at e
      exact e.symm
    have tk : triM (uTs T ((qG T (cQ2 T q)).take k)) (mN T ((qL T (cQ2 T q)).getD k 0)) := by
      have h2 := hG
      rw [sp] at h2
      exact (tkOk_app h2).2.1
    obtain ⟨x, y, z, x1, x2, x3, x4⟩ := tk
    rw [s4] at x3
    obtain ⟨i1, i2, i3⟩ := m3_inj x3 s1 s2 x1 x2
    rw [← i1, ← i2, ← i3] at x4
    have eT : uTs T ((qG T (cQ2 T q)).take (k + 1)) = sTake (uTs T ((qG T (cQ2 T q)).take k)) (c3 T ((qL T (cQ2 T q)).getD k 0) 0) (c3 T ((qL T (cQ2 T q)).getD k 0) 1) (c3 T ((qL T (cQ2 T q)).getD k 0) 2) := by
      rw [ed, uTs_app, s4]
      exact uTake_3 _
    refine xild 142 ⟨u220, _, rfl⟩ rfl rfl ?_
    refine xbip 144 (24) ⟨u220, _, rfl⟩ rfl (by decide) (fun z142 h142 => ?_)
    refine xcmp_ge 147 ⟨u220, _, rfl⟩ rfl (fun c144 => ?_) (fun c144 => ?_)
    · omega
    · refine xald 148 ⟨u220, _, rfl⟩ rfl rfl ?_
      refine xald 149 ⟨u220, _, rfl⟩ rfl rfl ?_
      refine xgetR 152 77 hH ⟨u220, _, rfl⟩ rfl rfl ?_
      refine xild 153 ⟨u220, _, rfl⟩ rfl rfl ?_
      refine xiald 154 (w).toInt.toNat hH ⟨u220, _, rfl⟩ rfl (by decide) rfl (by omega) (by omega) (fun z153 h153 => ?_)
      refine xald 155 ⟨u220, _, rfl⟩ rfl rfl ?_
      refine xgetR 158 77 hH ⟨u220, _, rfl⟩ rfl rfl ?_
      refine xild 159 ⟨u220, _, rfl⟩ rfl rfl ?_
      refine xcst 160 (1) ⟨u220, _, rfl⟩ rfl (by decide) (fun z159 h159 => ?_)
      refine xadd 161 _ ⟨u220, _, rfl⟩ rfl rfl (by omega) (by omega) (fun z160 h160 => ?_)
      refine xiald 162 (z160).toInt.toNat hH ⟨u220, _, rfl⟩ rfl (by decide) rfl (by omega) (by omega) (fun z161 h161 => ?_)
      refine xald 163 ⟨u220, _, rfl⟩ rfl rfl ?_
      refine xgetR 166 77 hH ⟨u220, _, rfl⟩ rfl rfl ?_
      refine xild 167 ⟨u220, _, rfl⟩ rfl rfl ?_
      refine xcst 168 (2) ⟨u220, _, rfl⟩ rfl (by decide) (fun z167 h167 => ?_)
      refine xadd 169 _ ⟨u220, _, rfl⟩ rfl rfl (by omega) (by omega) (fun z168 h168 => ?_)
      refine xiald 170 (z168).toInt.toNat hH ⟨u220, _, rfl⟩ rfl (by decide) rfl (by omega) (by omega) (fun z169 h169 => ?_)
      refine xcall 173 [.ref 66, .int _, .int _, .int _] [] hH ⟨u220, _, rfl⟩ rfl rfl rfl rfl rfl (k_tkR hH hP hC (x := c3 T ((qL T (cQ2 T q)).getD k 0) 0) (y := c3 T ((qL T (cQ2 T q)).getD k 0) 1) (z := c3 T ((qL T (cQ2 T q)).getD k 0) 2) (by rw [h153, show w.toInt.toNat = 6 * k by omega, hA2 _ (by omega), p0]) (by rw [h161, show z160.toInt.toNat = 6 * k + 1 by omega, hA2 _ (by omega), p1]) (by rw [h169, show z168.toInt.toNat = 6 * k + 2 by omega, hA2 _ (by omega), p2]) x4 (fun hp170 hH170 P170 F170 C170 => ⟨_, rfl, ?_⟩))
      rw [← eT] at C170
      refine xinc 176 (6) ⟨u220, _, rfl⟩ rfl rfl rfl (by decide) (by omega) (by omega) (fun z173 h173 => ?_)
      refine xgoto ⟨u220, _, rfl⟩ ?_
      exact ih (k + 1) z173 _ hp170 (by omega) (by omega) hH170 P170 (hF.trans F170) C170
theorem l220z {d V q : Nat} {T T0 : sT} {ty : Nat → Int} {hp0 : amH} {R : xQ} {a : Int32} (hT : sOk V T) (hq : q < nQ T) (hA : ∀ j, j < 24 → rN hp0 77 j = ((rpv T (cQ2 T q) j : Nat) : Int)) (hT0 : sOk V T0) (hG : ptOk V T0 (qC T (cQ2 T q)))
    (hR : ∀ (w : Int32) (v3 : Option Value) hp1, bHk 84 bTT hp1 → P0 hp1 → bFr [(67, 999)] hp0 hp1 → rowOk (rN hp1 67) (V, uPs T0 (qC T (cQ2 T q)), ty) → xV (d + 2) am_m220 221 [some (.ref 66), some (.int a), some (.int w), v3] [] hp1 R) :
    ∀ (jj k : Nat) (w : Int32) (v3 : Option Value) (hp : amH), w.toInt = 6 * (k : Int) → k + jj = 4 → bHk 84 bTT hp → P0 hp → bFr [(67, 999)] hp0 hp → rowOk (rN hp 67) (V, uPs T0 ((qC T (cQ2 T q)).take k), ty) → xV (d + 2) am_m220 181 [some (.ref 66), some (.int a), some (.int w), v3] [] hp R := by
  have hV := hT.2.1
  intro jj
  induction jj with
  | zero =>
    intro k w v3 hp hw hj hH hP hF hC
    have et : k = 4 := by omega
    subst et
    refine xild 182 ⟨u220, _, rfl⟩ rfl rfl ?_
    refine xbip 184 (24) ⟨u220, _, rfl⟩ rfl (by decide) (fun z182 h182 => ?_)
    refine xcmp_ge 187 ⟨u220, _, rfl⟩ rfl (fun c184 => ?_) (fun c184 => ?_)
    · exact hR _ _ hp hH hP hF hC
    · omega
  | succ jj ih =>
    intro k w v3 hp hw hj hH hP hF hC
    obtain ⟨ho, o2, o3, o4, o5⟩ := op_all hT hq (show k < 4 by omega)
    obtain ⟨a0, b0, d0⟩ := ho 0 (by omega)
    obtain ⟨a1, b1, d1⟩ := ho 1 (by omega)
    obtain ⟨a2, b2, d2⟩ := ho 2 (by omega)
    obtain ⟨p0, p1, p2, p3, p4, p5⟩ := rpv_s T (cQ2 T q) k
    have hA2 : ∀ j, j < 24 → rN hp 77 j = ((rpv T (cQ2 T q) j : Nat) : Int) := fun j hj2 => (r_fr hF rfl).trans (hA j hj2)
    generalize oppQ T (cQ2 T q) (c3 T ((qL T (cQ2 T q)).getD k 0) 0) = x at *
    generalize oppQ T (cQ2 T q) (c3 T ((qL T (cQ2 T q)).getD k 0) 1) = y at *
    generalize oppQ T (cQ2 T q) (c3 T ((qL T (cQ2 T q)).getD k 0) 2) = z at *
    have h4 : k < (qC T (cQ2 T q)).length := by show k < 4; omega
    have ed : (qC T (cQ2 T q)).take (k + 1) = (qC T (cQ2 T q)).take k ++ [m3 x y z] := by rw [tk_succ h4, o2]
    have sp : qC T (cQ2 T q) = (qC T (cQ2 T q)).take k ++ m3 x y z :: (qC T (cQ2 T q)).drop (k + 1) := by
      have e := List.take_append_drop k (qC T (cQ2 T q))
      rw [List.drop_eq_getElem_cons h4] at e
      rw [List.getD_eq_getElem?_getD, List.getElem?_eq_getElem h4] at o2
      have o2 : (qC T (cQ2 T q))[k] = _ := o2
      rw [o2] at e
      exact e.symm
    have pk : ptOk V T0 ((qC T (cQ2 T q)).take k) ∧ freM V (uPs T0 ((qC T (cQ2 T q)).take k)) (m3 x y z) := by
      have h2 := hG
      rw [sp] at h2
      have h3 := ptOk_app h2
      exact ⟨h3.1, h3.2.1⟩
    have fr := freM_3 (sOk_uPs hT0 pk.1) pk.2 o3 o4 o5
    have eT : uPs T0 ((qC T (cQ2 T q)).take (k + 1)) = sPut (uPs T0 ((qC T (cQ2 T q)).take k)) x y z := by
      rw [ed, uPs_app]
      exact uPut_3 _ (by omega) (by omega) (by omega) o3 o4 o5
    refine xild 182 ⟨u220, _, rfl⟩ rfl rfl ?_
    refine xbip 184 (24) ⟨u220, _, rfl⟩ rfl (by decide) (fun z182 h182 => ?_)
    refine xcmp_ge 187 ⟨u220, _, rfl⟩ rfl (fun c184 => ?_) (fun c184 => ?_)
    · omega
    · refine xald 188 ⟨u220, _, rfl⟩ rfl rfl ?_
      refine xald 189 ⟨u220, _, rfl⟩ rfl rfl ?_
      refine xgetR 192 77 hH ⟨u220, _, rfl⟩ rfl rfl ?_
      refine xild 193 ⟨u220, _, rfl⟩ rfl rfl ?_
      refine xcst 194 (3) ⟨u220, _, rfl⟩ rfl (by decide) (fun z193 h193 => ?_)
      refine xadd 195 _ ⟨u220, _, rfl⟩ rfl rfl (by omega) (by omega) (fun z194 h194 => ?_)
      refine xiald 196 (z194).toInt.toNat hH ⟨u220, _, rfl⟩ rfl (by decide) rfl (by omega) (by omega) (fun z195 h195 => ?_)
      refine xald 197 ⟨u220, _, rfl⟩ rfl rfl ?_
      refine xgetR 200 77 hH ⟨u220, _, rfl⟩ rfl rfl ?_
      refine xild 201 ⟨u220, _, rfl⟩ rfl rfl ?_
      refine xcst 202 (4) ⟨u220, _, rfl⟩ rfl (by decide) (fun z201 h201 => ?_)
      refine xadd 203 _ ⟨u220, _, rfl⟩ rfl rfl (by omega) (by omega) (fun z202 h202 => ?_)
      refine xiald 204 (z202).toInt.toNat hH ⟨u220, _, rfl⟩ rfl (by decide) rfl (by omega) (by omega) (fun z203 h203 => ?_)
      refine xald 205 ⟨u220, _, rfl⟩ rfl rfl ?_
      refine xgetR 208 77 hH ⟨u220, _, rfl⟩ rfl rfl ?_
      refine xild 209 ⟨u220, _, rfl⟩ rfl rfl ?_
      refine xcst 210 (5) ⟨u220, _, rfl⟩ rfl (by decide) (fun z209 h209 => ?_)
      refine xadd 211 _ ⟨u220, _, rfl⟩ rfl rfl (by omega) (by omega) (fun z210 h210 => ?_)
      refine xiald 212 (z210).toInt.toNat hH ⟨u220, _, rfl⟩ rfl (by decide) rfl (by omega) (by omega) (fun z211 h211 => ?_)
      refine xcall 215 [.ref 66, .int _, .int _, .int _] [] hH ⟨u220, _, rfl⟩ rfl rfl rfl rfl rfl (k_ptR hH hP hC (x := x) (y := y) (z := z) (by rw [h195, show z194.toInt.toNat = 6 * k + 3 by omega, hA2 _ (by omega), p3]) (by rw [h203, show z202.toInt.toNat = 6 * k + 4 by omega, hA2 _ (by omega), p4]) (by rw [h211, show z210.toInt.toNat = 6 * k + 5 by omega, hA2 _ (by omega), p5]) d0 d1 d2 o3 o4 o5 fr (fun hp212 hH212 P212 F212 C212 => ⟨_, rfl, ?_⟩))
      rw [← eT] at C212
      refine xinc 218 (6) ⟨u220, _, rfl⟩ rfl rfl rfl (by decide) (by omega) (by omega) (fun z215 h215 => ?_)
      refine xgoto ⟨u220, _, rfl⟩ ?_
      exact ih (k + 1) z215 _ hp212 (by omega) (by omega) hH212 P212 (hF.trans F212) C212
theorem k_220E {d V n q : Nat} {h : Nat → sR} {sv : Option sR} {T : sT} {ty : Nat → Int} {hp : amH} {R : xQ} {a : Int32} (hH : bHk 84 bTT hp) (hP : P0 hp) (hS : rfS hp (V, T, ty) n h sv) (hL : rlN hp T 225) (hQ : rqN hp T 42875) (hq : q < nQ T) (ha : a.toInt = (q : Int))
    (hR : ∀ hp1, bHk 84 bTT hp1 → P0 hp1 → bFr [(67, 999), (77, 999)] hp hp1 → rfS hp1 (V, swQ T (cQ2 T q), tyQ ty) n h sv → R (.inl none) hp1) : xK (d + 2) 220 [.ref 66, .int a] hp R := by
  have hT : sOk V T := hS.1.2.1
  obtain ⟨g1, g2, g3, g4, g5, g6⟩ := sw_ok hT hq
  refine xin (M := am_m220) rfl rfl rfl ?_
  refine xcst 1 (0) ⟨u220, _, rfl⟩ rfl (by decide) (fun z0 h0 => ?_)
  refine xist 2 ⟨u220, _, rfl⟩ rfl rfl ?_
  refine xpad 1 ?_
  refine l220x hT hL hQ hq ha (fun w1 v1 hpa hHa Fa Aa => ?_) 4 0 _ _ hp h0 (by omega) hH (bFr.refl _ _) (fun j hj => absurd hj (by omega))
  have Pa : P0 hpa := P0_W (W := [(77, 999)]) (by decide) Fa hP
  have Ca : rowOk (rN hpa 67) (V, T, ty) := by rw [show rN hpa 67 = rN hp 67 from funext (fun i => r_fr Fa rfl)]; exact hS.1
  refine xcst 140 (0) ⟨u220, _, rfl⟩ rfl (by decide) (fun z139 h139 => ?_)
  refine xist 141 ⟨u220, _, rfl⟩ rfl rfl ?_
  refine l220y (a := a) (ty := ty) hT hq Aa g3 (fun w2 v2 hpb hHb Pb Fb Cb => ?_) 4 0 _ _ hpa (by omega) (by omega) hHa Pa (bFr.refl _ _) Ca
  have Ab : ∀ j, j < 24 → rN hpb 77 j = ((rpv T (cQ2 T q) j : Nat) : Int) := fun j hj2 => (r_fr Fb rfl).trans (Aa j hj2)
  refine xcst 180 (0) ⟨u220, _, rfl⟩ rfl (by decide) (fun z179 h179 => ?_)
  refine xist 181 ⟨u220, _, rfl⟩ rfl rfl ?_
  refine l220z (a := a) (ty := ty) hT hq Ab g4 g5 (fun w3 v3 hpc hHc Pc Fc Cc => ?_) 4 0 _ _ hpb (by omega) (by omega) hHb Pb (bFr.refl _ _) Cb
  refine xald 222 ⟨u220, _, rfl⟩ rfl rfl ?_
  refine xgetR 225 67 hHc ⟨u220, _, rfl⟩ rfl rfl ?_
  refine xcst 226 (1) ⟨u220, _, rfl⟩ rfl (by decide) (fun z225 h225 => ?_)
  refine xdup2 227 ⟨u220, _, rfl⟩ rfl rfl rfl ?_
  refine xiald 228 (z225).toInt.toNat hHc ⟨u220, _, rfl⟩ rfl (by decide) rfl (by omega) (by omega) (fun z227 h227 => ?_)
  refine xcst 229 (1) ⟨u220, _, rfl⟩ rfl (by decide) (fun z228 h228 => ?_)
  refine xaddB 230 ⟨u220, _, rfl⟩ rfl (fun z229 h229 => ?_)
  have em230 := aMin z229
  have ex230 := aMax z229
  refine xiast 231 (z225).toInt.toNat hHc ⟨u220, _, rfl⟩ rfl (by decide) rfl (by omega) (by omega) (by omega) (by omega) (fun hp230 hH230 U230 => ?_)
  have s230 := U230.1
  refine xald 232 ⟨u220, _, rfl⟩ rfl rfl ?_
  refine xgetR 235 67 hH230 ⟨u220, _, rfl⟩ rfl rfl ?_
  refine xcst 236 (3) ⟨u220, _, rfl⟩ rfl (by decide) (fun z235 h235 => ?_)
  refine xdup2 237 ⟨u220, _, rfl⟩ rfl rfl rfl ?_
  refine xiald 238 (z235).toInt.toNat hH230 ⟨u220, _, rfl⟩ rfl (by decide) rfl (by omega) (by omega) (fun z237 h237 => ?_)
  refine xcst 239 (4) ⟨u220, _, rfl⟩ rfl (by decide) (fun z238 h238 => ?_)
  refine xaddB 240 ⟨u220, _, rfl⟩ rfl (fun z239 h239 => ?_)
  have em240 := aMin z239
  have ex240 := aMax z239
  refine xiast 241 (z235).toInt.toNat hH230 ⟨u220, _, rfl⟩ rfl (by decide) rfl (by omega) (by omega) (by omega) (by omega) (fun hp240 hH240 U240 => ?_)
  have s240 := U240.1
  have q1 : rN hpc 67 1 = ty 0 := Cc.2.2.2.2 0 (by omega)
  have q2 : rN hpc 67 2 = ty 1 := Cc.2.2.2.2 1 (by omega)
  have q3 : rN hpc 67 3 = ty 2 := Cc.2.2.2.2 2 (by omega)
  have u230 := U230.1
  have u240 := U240.1
  have i1 : z225.toInt.toNat = 1 := by omega
  have i3 : z235.toInt.toNat = 3 := by omega
  rw [i1] at u230 h227
  rw [i3] at u240 h237
  have Cd : rowOk (rN hp240 67) (V, swQ T (cQ2 T q), tyQ ty) := by
    obtain ⟨r0, r1, r2, r3, r4⟩ := Cc
    refine ⟨by rw [rU_ne U240 (by first | decide | exact (fun z => absurd z.1 (by decide)) | omega), rU_ne U230 (by first | decide | exact (fun z => absurd z.1 (by decide)) | omega)]; exact r0, r1, fun u v hu hv => by rw [rU_ne U240 (by first | decide | exact (fun z => absurd z.1 (by decide)) | omega), rU_ne U230 (by first | decide | exact (fun z => absurd z.1 (by decide)) | omega)]; exact r2 u v hu hv, r3, fun i hi => ?_⟩
    have : i = 0 ∨ i = 1 ∨ i = 2 := by omega
    rcases this with rfl | rfl | rfl
    · show rN hp240 67 1 = _
      rw [rU_ne U240 (by first | decide | exact (fun z => absurd z.1 (by decide)) | omega), u230, h229, h227, q1, h228]
      rfl
    · show rN hp240 67 2 = _
      rw [rU_ne U240 (by first | decide | exact (fun z => absurd z.1 (by decide)) | omega), rU_ne U230 (by first | decide | exact (fun z => absurd z.1 (by decide)) | omega)]
      exact q2
    · show rN hp240 67 3 = _
      rw [u240, h239, h237, rU_ne U230 (by first | decide | exact (fun z => absurd z.1 (by decide)) | omega), q3, h238]
      rfl
  have Fd : bFr [(67, 999)] hpa hp240 := ((Fb.trans Fc).trans (rU_fr U230 (bIn_all (by decide) _))).trans (rU_fr U240 (bIn_all (by decide) _))
  exact xretV ⟨u220, _, rfl⟩ rfl (hR hp240 hH240 (P0_67 Fd Pa (rowOk_V Cd)) ((bFr_sub Fa (by decide)).trans (bFr_sub Fd (by decide))) (rfS_67 (rfS_W hS Fa (fun _ => rfl) rfl rfl (fun _ => rfl) (fun _ => rfl)) Fd Cd))
