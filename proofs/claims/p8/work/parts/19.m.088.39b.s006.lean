theorem l219E {d V q u : Nat} {T : sT} {hp : amH} {R : xQ} {a b : Int32} (hH : bHk 84 bTT hp) (hT : sOk V T) (hL : rlN hp T 225) (hQ : rqN hp T 42875) (hq : q < nQ T) (ha : a.toInt = (q : Int)) (hb : b.toInt = (u : Int)) (hu : u < 15) (ho : opL T (cQ2 T q) u = 2 ^ oppQ T (cQ2 T q) u) (hlt : oppQ T (cQ2 T q) u < 15)
    (hR : ∀ z : Int32, z.toInt = ((oppQ T (cQ2 T q) u : Nat) : Int) → R (.inl (some (.int z))) hp) :
    ∀ (jj k : Nat) (w wk : Int32) (v5 : Option Value), wk.toInt = (k : Int) → k + jj = 4 → w.toInt = ((lfL u (ndif (qU T (cQ2 T q)) (2 ^ u)) ((qG T (cQ2 T q)).take k) : Nat) : Int) → xV (d + 1) am_m219 15 [some (.ref 66), some (.int a), some (.int b), some (.int w), some (.int wk), v5] [] hp R := by
  have h105 := q105 hT
  have l35 := trL_35 hT 225
  have hq2 : q < (fL (qdB T) 42875).length := hq
  have uU := qU_lt hT hq
  intro jj
  induction jj with
  | zero =>
    intro k w wk v5 hwk hj hw
    have et : k = 4 := by omega
    subst et
    have hw : w.toInt = ((opL T (cQ2 T q) u : Nat) : Int) := hw
    rw [ho] at hw
    refine xild2 17 ⟨u219, _, rfl⟩ rfl rfl ?_
    refine xcst 18 (4) ⟨u219, _, rfl⟩ rfl (by decide) (fun z17 h17 => ?_)
    refine xcmp_ge 21 ⟨u219, _, rfl⟩ rfl (fun c18 => ?_) (fun c18 => ?_)
    · refine xild 63 ⟨u219, _, rfl⟩ rfl rfl ?_
      refine xcallS 66 [.int _] [] hH ⟨u219, _, rfl⟩ rfl rfl rfl rfl rfl (k_ntz hw hlt (fun z63 h63 => ⟨_, rfl, ?_⟩))
      exact xret ⟨u219, _, rfl⟩ rfl (hR _ h63)
    · omega
  | succ jj ih =>
    intro k w wk v5 hwk hj hw
    obtain ⟨hk, -⟩ := rq_get hT hQ hq
    obtain ⟨l1, l2, l3, l4⟩ := qL_lt hT hq k (by omega)
    have kk := hk k (by omega)
    have ml := (mN_lt hT l1).1
    have LM : rN hp 75 ((qL T (cQ2 T q)).getD k 0) = ((mN T ((qL T (cQ2 T q)).getD k 0) : Nat) : Int) := (hL.2 _ l1).2.2.2
    have ap : lfL u (ndif (qU T (cQ2 T q)) (2 ^ u)) ((qG T (cQ2 T q)).take (k + 1)) = if (mN T ((qL T (cQ2 T q)).getD k 0)).testBit u = true then ndif (lfL u (ndif (qU T (cQ2 T q)) (2 ^ u)) ((qG T (cQ2 T q)).take k)) (mN T ((qL T (cQ2 T q)).getD k 0)) else lfL u (ndif (qU T (cQ2 T q)) (2 ^ u)) ((qG T (cQ2 T q)).take k) := by
      rw [tk_succ (show k < (qG T (cQ2 T q)).length by show k < 4; omega), l3]
      exact lfL_app
    have lf := lfL_lt (p := u) (A := (qG T (cQ2 T q)).take k) (nd_lt (n := 2 ^ u) uU)
    generalize (qL T (cQ2 T q)).getD k 0 = t at *
    refine xild2 17 ⟨u219, _, rfl⟩ rfl rfl ?_
    refine xcst 18 (4) ⟨u219, _, rfl⟩ rfl (by decide) (fun z17 h17 => ?_)
    refine xcmp_ge 21 ⟨u219, _, rfl⟩ rfl (fun c18 => ?_) (fun c18 => ?_)
    · omega
    · refine xald 22 ⟨u219, _, rfl⟩ rfl rfl ?_
      refine xgetR 25 75 hH ⟨u219, _, rfl⟩ rfl rfl ?_
      refine xald 26 ⟨u219, _, rfl⟩ rfl rfl ?_
      refine xgetR 29 76 hH ⟨u219, _, rfl⟩ rfl rfl ?_
      refine xcst 30 (4) ⟨u219, _, rfl⟩ rfl (by decide) (fun z29 h29 => ?_)
      refine xild 31 ⟨u219, _, rfl⟩ rfl rfl ?_
      refine xmul 32 (4 * Int32.toInt a) ⟨u219, _, rfl⟩ rfl (by rw [h29]) (by omega) (by omega) (fun z31 h31 => ?_)
      refine xild2 34 ⟨u219, _, rfl⟩ rfl rfl ?_
      refine xadd 35 _ ⟨u219, _, rfl⟩ rfl rfl (by omega) (by omega) (fun z34 h34 => ?_)
      refine xiald 36 (z34).toInt.toNat hH ⟨u219, _, rfl⟩ rfl (by decide) rfl (by omega) (by omega) (fun z35 h35 => ?_)
      rw [show z34.toInt.toNat = 4 * q + k by omega, kk] at h35
      refine xiald 37 (z35).toInt.toNat hH ⟨u219, _, rfl⟩ rfl (by decide) rfl (by omega) (by omega) (fun z36 h36 => ?_)
      rw [show z35.toInt.toNat = t by omega, LM] at h36
      refine xist2 39 ⟨u219, _, rfl⟩ rfl rfl ?_
      refine xild2 41 ⟨u219, _, rfl⟩ rfl rfl ?_
      refine xild 42 ⟨u219, _, rfl⟩ rfl rfl ?_
      refine xshr 43 ⟨u219, _, rfl⟩ rfl ?_
      refine xcst 44 (1) ⟨u219, _, rfl⟩ rfl (by decide) (fun z43 h43 => ?_)
      refine xand 45 ⟨u219, _, rfl⟩ rfl ?_
      have tb := i_bit h36 ml hb hu h43
      refine xcst 46 (1) ⟨u219, _, rfl⟩ rfl (by decide) (fun z45 h45 => ?_)
      refine xcmp_ne 49 ⟨u219, _, rfl⟩ rfl (fun c46 => ?_) (fun c46 => ?_)
      · have nb : ¬ (mN T t).testBit u = true := fun z => by rw [if_pos z] at tb; omega
        rw [if_neg nb] at ap
        refine xinc 59 (1) ⟨u219, _, rfl⟩ rfl rfl rfl (by decide) (by omega) (by omega) (fun z56 h56 => ?_)
        refine xgoto ⟨u219, _, rfl⟩ ?_
        exact ih (k + 1) w z56 _ (by omega) (by omega) (by rw [ap]; exact hw)
      · have nb : (mN T t).testBit u = true := by
          cases e : (mN T t).testBit u
          · rw [e] at tb; simp at tb; omega
          · rfl
        rw [if_pos nb] at ap
        refine xild 50 ⟨u219, _, rfl⟩ rfl rfl ?_
        refine xild2 52 ⟨u219, _, rfl⟩ rfl rfl ?_
        refine xcst 53 (-1) ⟨u219, _, rfl⟩ rfl (by decide) (fun z52 h52 => ?_)
        refine xxor 54 ⟨u219, _, rfl⟩ rfl ?_
        refine xand 55 ⟨u219, _, rfl⟩ rfl ?_
        refine xist 56 ⟨u219, _, rfl⟩ rfl rfl ?_
        refine xinc 59 (1) ⟨u219, _, rfl⟩ rfl rfl rfl (by decide) (by omega) (by omega) (fun z56 h56 => ?_)
        refine xgoto ⟨u219, _, rfl⟩ ?_
        exact ih (k + 1) (w &&& (z36 ^^^ z52)) z56 _ (by omega) (by omega) (by rw [ap]; exact i_nd hw h36 lf (by omega) h52)
