/-! ===== the reference's tokens: words, errors, points ===== -/
theorem k_tln {d : Nat} {hp : amH} {R : xQ} {y : tY} {s : Nat} (hH : bHk 84 bTT hp) (T : rT hp y s) (hs : tE y s ≤ 600) (hR : ∀ z : Int32, z.toInt = ((tE y s : Nat) : Int) - (s : Int) → R (.inl (some (.int z))) hp) : xK d 243 [.ref 66] hp R := by
  have h1 := T.1
  have h2 := T.2.1
  have h3 := tE_ge (y := y) (s := s)
  refine xin (M := am_m243) rfl rfl rfl ?_
  refine xald 1 ⟨u243, _, rfl⟩ rfl rfl ?_
  refine xgetI 4 hH ⟨u243, _, rfl⟩ rfl rfl (fun z1 h1 => ?_)
  refine xald 5 ⟨u243, _, rfl⟩ rfl rfl ?_
  refine xgetI 8 hH ⟨u243, _, rfl⟩ rfl rfl (fun z5 h5 => ?_)
  refine xsub 9 _ ⟨u243, _, rfl⟩ rfl rfl (by omega) (by omega) (fun z8 h8 => ?_)
  exact xret ⟨u243, _, rfl⟩ rfl (hR _ (by omega))
/-- an error at the token, the first one -/
theorem k_rf {d : Nat} {hp : amH} {R : xQ} {c : Int32} (hH : bHk 84 bTT hp) (h0 : rN hp 66 24 = 0) (hR : ∀ (z : Int32) hp1, z.toInt = 0 → bHk 84 bTT hp1 → bFr wFa hp hp1 → rN hp1 66 24 = c.toInt → rN hp1 66 25 = rN hp 66 27 → R (.inl (some (.int z))) hp1) : xK d 244 [.ref 66, .int c] hp R := by
  have b1 := aMin c
  have b2 := aMax c
  have b3 := rb_fld hH (f := 27) (lo := 2147483648) (hi := 2147484249) rfl
  refine xin (M := am_m244) rfl rfl rfl ?_
  refine xald 1 ⟨u244, _, rfl⟩ rfl rfl ?_
  refine xgetI 4 hH ⟨u244, _, rfl⟩ rfl rfl (fun z1 h1 => ?_)
  refine xif_ne 7 ⟨u244, _, rfl⟩ rfl (fun c4 => ?_) (fun c4 => ?_)
  · omega
  · refine xald 8 ⟨u244, _, rfl⟩ rfl rfl ?_
    refine xild 9 ⟨u244, _, rfl⟩ rfl rfl ?_
    refine xputI 12 hH ⟨u244, _, rfl⟩ rfl rfl ⟨rfl, rfl⟩ (by omega) (by omega) (fun hp9 hH9 U9 => ?_)
    have s9 := U9.1
    have n9_66_27 : rN hp9 (66) 27 = rN hp (66) 27 := rU_ne U9 (by omega)
    refine xald 13 ⟨u244, _, rfl⟩ rfl rfl ?_
    refine xald 14 ⟨u244, _, rfl⟩ rfl rfl ?_
    refine xgetI 17 hH9 ⟨u244, _, rfl⟩ rfl rfl (fun z14 h14 => ?_)
    refine xputI 20 hH9 ⟨u244, _, rfl⟩ rfl rfl ⟨rfl, rfl⟩ (by omega) (by omega) (fun hp17 hH17 U17 => ?_)
    have s17 := U17.1
    have n17_66_24 : rN hp17 (66) 24 = rN hp9 (66) 24 := rU_ne U17 (by omega)
    have n17_66_27 : rN hp17 (66) 27 = rN hp9 (66) 27 := rU_ne U17 (by omega)
    refine xcst 21 (0) ⟨u244, _, rfl⟩ rfl (by decide) (fun z20 h20 => ?_)
    exact xretB ⟨u244, _, rfl⟩ rfl (by omega) (hR _ _ (by omega) hH17 ((rU_fr U9 (by decide)).trans (rU_fr U17 (by decide))) (by omega) (by omega))
theorem m245 {d : Nat} {hp : amH} {R : xQ} {y : tY} {s r : Nat} {l : List Int32} (hl : amWd r = some l ∧ l.length ≤ 100) (hH : bHk 84 bTT hp) (Y : rB hp = y) (h6 : rN hp 66 27 = (s : Int)) (hs : ((s + l.length : Nat) : Int) ≤ rN hp 66 21)
    (hall : (∀ k, k < l.length → y (s + k) = (l.getD k 0).toInt) → tWd y s l = true)
    (hR : ∀ z : Int32, ((z.toInt = 1 ∧ tWd y s l = true) ∨ (z.toInt = 0 ∧ tWd y s l = false)) → R (.inl (some (.int z))) hp) :
    ∀ (jj q : Nat) (k : Int32), k.toInt = (q : Int) → q + jj = l.length → (∀ k, k < q → y (s + k) = (l.getD k 0).toInt) → xV (d + 1) am_m245 23 [some (.ref 66), some (.ref r), some (.int k)] [] hp R := by
  intro jj
  induction jj using Nat.strongRecOn with
  | ind jj ih =>
    intro q k hk hjj hq
    have hl2 := hl.2
    have b0 := b21 hH
    have hy : q < l.length → y (s + q) = rN hp 80 (s + q) := fun g => by rw [← Y]; unfold rB; rw [if_pos (by omega)]
    refine xild 24 ⟨u245, _, rfl⟩ rfl rfl ?_
    refine xald 25 ⟨u245, _, rfl⟩ rfl rfl ?_
    refine xlenS 28 ⟨u245, _, rfl⟩ rfl hl rfl (fun z25 h25 => ?_)
    refine xcmp_ge 31 ⟨u245, _, rfl⟩ rfl (fun c28 => ?_) (fun c28 => ?_)
    · refine xcst 59 (1) ⟨u245, _, rfl⟩ rfl (by decide) (fun z58 h58 => ?_)
      exact xretB ⟨u245, _, rfl⟩ rfl (by omega) (hR _ (Or.inl ⟨by omega, hall (fun k hk => hq k (by omega))⟩))
    · have yq := hy (by omega)
      refine xald 32 ⟨u245, _, rfl⟩ rfl rfl ?_
      refine xgetR 35 80 hH ⟨u245, _, rfl⟩ rfl rfl ?_
      refine xald 36 ⟨u245, _, rfl⟩ rfl rfl ?_
      refine xgetI 39 hH ⟨u245, _, rfl⟩ rfl rfl (fun z36 h36 => ?_)
      refine xild 40 ⟨u245, _, rfl⟩ rfl rfl ?_
      refine xadd 41 _ ⟨u245, _, rfl⟩ rfl rfl (by omega) (by omega) (fun z40 h40 => ?_)
      refine xiald 42 (z40).toInt.toNat hH ⟨u245, _, rfl⟩ rfl (by decide) rfl (by omega) (by omega) (fun z41 h41 => ?_)
      rw [show z40.toInt.toNat = s + q by omega] at h41
      refine xald 43 ⟨u245, _, rfl⟩ rfl rfl ?_
      refine xild 44 ⟨u245, _, rfl⟩ rfl rfl ?_
      refine xchrSE 47 q ⟨u245, _, rfl⟩ rfl hl rfl (by omega) (by omega) (fun z44 h44 => ?_)
      refine xcmp_eq 50 ⟨u245, _, rfl⟩ rfl (fun c47 => ?_) (fun c47 => ?_)
      · refine xinc 55 (1) ⟨u245, _, rfl⟩ rfl rfl rfl (by decide) (by omega) (by omega) (fun z52 h52 => ?_)
        refine xgoto ⟨u245, _, rfl⟩ ?_
        exact ih (jj - 1) (by omega) (q + 1) _ (by omega) (by omega) (fun k k1 => by rcases Nat.lt_or_ge k q with g | g; exact hq k g; rw [show k = q by omega]; omega)
      · refine xcst 51 (0) ⟨u245, _, rfl⟩ rfl (by decide) (fun z50 h50 => ?_)
        exact xretB ⟨u245, _, rfl⟩ rfl (by omega) (hR _ (Or.inr ⟨by omega, by cases e9 : tWd y s l; rfl; have := (of_decide_eq_true e9).2.2 q (by omega); omega⟩))
theorem k_rw2 {d : Nat} {hp : amH} {R : xQ} {y : tY} {s r : Nat} {l : List Int32} (hok : amOk 84 (.ref r) = true) (hl : amWd r = some l ∧ l.length ≤ 100) (hH : bHk 84 bTT hp) (Y : rB hp = y) (T : rT hp y s) (hs : (s : Int) ≤ rN hp 66 21)
    (hR : ∀ z : Int32, ((z.toInt = 1 ∧ tWd y s l = true) ∨ (z.toInt = 0 ∧ tWd y s l = false)) → R (.inl (some (.int z))) hp) : xK (d + 1) 245 [.ref 66, .ref r] hp R := by
  have b0 := b21 hH
  have hE := tE_le (by rw [← Y]; exact rB_ok hH : tOk (rN hp 66 21).toNat y) (s := s) (by omega)
  obtain ⟨h6, h4, h5, -⟩ := id T
  refine xin (M := am_m245) rfl rfl (by unfold xAv; simp only [List.all_cons, List.all_nil, hok]; rfl) ?_
  refine xald 1 ⟨u245, _, rfl⟩ rfl rfl ?_
  refine xgetI 4 hH ⟨u245, _, rfl⟩ rfl rfl (fun z1 h1 => ?_)
  refine xcst 5 (1) ⟨u245, _, rfl⟩ rfl (by decide) (fun z4 h4 => ?_)
  refine xcmp_ne 8 ⟨u245, _, rfl⟩ rfl (fun c5 => ?_) (fun c5 => ?_)
  · refine xcst 20 (0) ⟨u245, _, rfl⟩ rfl (by decide) (fun z19 h19 => ?_)
    exact xretB ⟨u245, _, rfl⟩ rfl (by omega) (hR _ (Or.inr ⟨by omega, by cases e9 : tWd y s l; rfl; have := (of_decide_eq_true e9).1; omega⟩))
  · refine xald 9 ⟨u245, _, rfl⟩ rfl rfl ?_
    refine xcall 12 [.ref 66] [] hH ⟨u245, _, rfl⟩ rfl rfl rfl rfl rfl (k_tln hH T (by omega) (fun z9 h9 => ⟨_, rfl, ?_⟩))
    refine xald 13 ⟨u245, _, rfl⟩ rfl rfl ?_
    refine xlenS 16 ⟨u245, _, rfl⟩ rfl hl rfl (fun z13 h13 => ?_)
    refine xcmp_eq 19 ⟨u245, _, rfl⟩ rfl (fun c16 => ?_) (fun c16 => ?_)
    · refine xcst 22 (0) ⟨u245, _, rfl⟩ rfl (by decide) (fun z21 h21 => ?_)
      refine xist 23 ⟨u245, _, rfl⟩ rfl rfl ?_
      exact m245 hl hH Y h6 (by omega) (fun g => decide_eq_true ⟨by omega, by omega, g⟩) hR l.length 0 _ (by omega) (by omega) (fun k k1 => by omega)
    · refine xcst 20 (0) ⟨u245, _, rfl⟩ rfl (by decide) (fun z19 h19 => ?_)
      exact xretB ⟨u245, _, rfl⟩ rfl (by omega) (hR _ (Or.inr ⟨by omega, by cases e9 : tWd y s l; rfl; have := (of_decide_eq_true e9).2.1; omega⟩))
theorem tNum_1r {y : tY} {s : Nat} {lo hi : Int} {pre : List Int} (h : ¬ (tK y s = 2 ∧ tE y s ≤ s + 2)) : tNum y s lo hi pre = 1 := by
  unfold tNum
  rw [if_pos h]
theorem tNum_2r {y : tY} {s : Nat} {lo hi : Int} {pre : List Int} (h : tK y s = 2 ∧ tE y s ≤ s + 2) (h2 : tV y s < lo ∨ hi < tV y s ∨ tV y s ∈ pre) : tNum y s lo hi pre = 2 := tNum_2 (ckK_2.mpr h) h2
/-- what a point read leaves -/
def rTk (y : tY) (s t : Nat) (lo hi : Int) (pre : List Int) (z : Int) (hp hp1 : amH) : Prop :=
  (tNum y s lo hi pre = 0 ∧ z = 1 ∧ rN hp1 81 t = tV y s ∧ (∀ k, k < t → rN hp1 81 k = rN hp 81 k) ∧ rT hp1 y (tN y s) ∧ rN hp1 66 24 = 0 ∧ rN hp1 66 25 = rN hp 66 25) ∨ (¬ tNum y s lo hi pre = 0 ∧ z = 0 ∧ rN hp1 66 24 = tNum y s lo hi pre ∧ rN hp1 66 25 = (s : Int))
theorem rB_81 {hp hp1 : amH} {j : Nat} {m : Int} (U : rU hp hp1 81 j m) : rB hp1 = rB hp := by
  funext k
  unfold rB
  rw [rU_ne U (by omega), rU_ne U (by omega)]
theorem m246 {d : Nat} {hp : amH} {R : xQ} {y : tY} {s tt : Nat} {pre : List Int} {t mn mx : Int32} (hH : bHk 84 bTT hp) (Y : rB hp = y) (T : rT hp y s) (hs : (s : Int) ≤ rN hp 66 21) (h0 : rN hp 66 24 = 0) (ht : t.toInt = (tt : Int)) (ht2 : tt ≤ 2) (hl : pre.length = tt) (hpre : ∀ k, k < tt → rN hp 81 k = pre.getD k 0) (hk : tK y s = 2 ∧ tE y s ≤ s + 2) (hv : rN hp 66 28 = tV y s) (hv1 : mn.toInt ≤ tV y s) (hv2 : tV y s ≤ mx.toInt)
    (hR : ∀ (z : Int32) hp1, bHk 84 bTT hp1 → bFr wTK hp hp1 → rTk y s tt mn.toInt mx.toInt pre z.toInt hp hp1 → R (.inl (some (.int z))) hp1) :
    ∀ (jj q : Nat) (k : Int32), k.toInt = (q : Int) → q + jj = tt → (∀ k, k < q → ¬ pre.getD k 0 = tV y s) → xV (d + 2) am_m246 43 [some (.ref 66), some (.int t), some (.int mn), some (.int mx), some (.int k)] [] hp R := by
  intro jj
  induction jj using Nat.strongRecOn with
  | ind jj ih =>
    intro q kk hkk hjj hq
    have b0 := b21 hH
    have hEE := tE_le (by rw [← Y]; exact rB_ok hH : tOk (rN hp 66 21).toNat y) (s := s) (by omega)
    have hn : ∀ z : Int, z ∈ pre ↔ ∃ k, k < tt ∧ pre.getD k 0 = z := fun z => by
      rw [List.mem_iff_getElem]
      constructor
      · rintro ⟨i, hi, e⟩
        exact ⟨i, by omega, by rw [List.getD_eq_getElem?_getD, List.getElem?_eq_getElem hi]; exact e⟩
      · rintro ⟨i, hi, e⟩
        refine ⟨i, by omega, ?_⟩
        rw [List.getD_eq_getElem?_getD, List.getElem?_eq_getElem (by omega)] at e
        exact e
    refine xild2 45 ⟨u246, _, rfl⟩ rfl rfl ?_
    refine xild 46 ⟨u246, _, rfl⟩ rfl rfl ?_
    refine xcmp_ge 49 ⟨u246, _, rfl⟩ rfl (fun c46 => ?_) (fun c46 => ?_)
    · have n0 : tNum y s mn.toInt mx.toInt pre = 0 := tNum_0 (ckK_2.mpr hk) hv1 hv2 (fun z => by obtain ⟨k, k1, k2⟩ := (hn _).mp z; exact hq k (by omega) k2)
      refine xald 76 ⟨u246, _, rfl⟩ rfl rfl ?_
      refine xgetR 79 81 hH ⟨u246, _, rfl⟩ rfl rfl ?_
      refine xild 80 ⟨u246, _, rfl⟩ rfl rfl ?_
      refine xald 81 ⟨u246, _, rfl⟩ rfl rfl ?_
      refine xgetI 84 hH ⟨u246, _, rfl⟩ rfl rfl (fun z81 h81 => ?_)
      have bm := aMin z81
      have bx := aMax z81
      refine xiast 85 (t).toInt.toNat hH ⟨u246, _, rfl⟩ rfl (by decide) rfl (by omega) (by omega) (by omega) (by omega) (fun hp84 hH84 U84 => ?_)
      have s84 := U84.1
      refine xald 86 ⟨u246, _, rfl⟩ rfl rfl ?_
      refine xcall 89 [.ref 66] [] hH84 ⟨u246, _, rfl⟩ rfl rfl rfl rfl rfl (k_radv hH84 ((rB_81 U84).trans Y) (p := tE y s) (by rw [rU_ne U84 (by omega)]; exact T.2.1) (by rw [rU_ne U84 (by omega)]; omega) (fun hp86 hH86 F86 Y86 T86 => ⟨_, rfl, ?_⟩))
      refine xcst 90 (1) ⟨u246, _, rfl⟩ rfl (by decide) (fun z89 h89 => ?_)
      exact xretB ⟨u246, _, rfl⟩ rfl (by omega) (hR _ hp86 hH86 ((rU_fr U84 (bIn_all (by decide) _)).trans (bFr_sub F86 (by decide))) (Or.inl ⟨n0, by omega, by rw [show rN hp86 81 tt = rN hp84 81 tt from r_fr F86 rfl]; have e := U84.1; rw [show t.toInt.toNat = tt by omega] at e; omega, fun k hk => by rw [show rN hp86 81 k = rN hp84 81 k from r_fr F86 rfl, rU_ne U84 (by omega)], T86, by rw [show rN hp86 66 24 = rN hp84 66 24 from r_fr F86 rfl, rU_ne U84 (by omega)]; exact h0, by rw [show rN hp86 66 25 = rN hp84 66 25 from r_fr F86 rfl, rU_ne U84 (by omega)]⟩))
    · refine xald 50 ⟨u246, _, rfl⟩ rfl rfl ?_
      refine xgetR 53 81 hH ⟨u246, _, rfl⟩ rfl rfl ?_
      refine xild2 55 ⟨u246, _, rfl⟩ rfl rfl ?_
      refine xiald 56 (kk).toInt.toNat hH ⟨u246, _, rfl⟩ rfl (by decide) rfl (by omega) (by omega) (fun z55 h55 => ?_)
      refine xald 57 ⟨u246, _, rfl⟩ rfl rfl ?_
      refine xgetI 60 hH ⟨u246, _, rfl⟩ rfl rfl (fun z57 h57 => ?_)
      refine xcmp_ne 63 ⟨u246, _, rfl⟩ rfl (fun c60 => ?_) (fun c60 => ?_)
      · refine xinc 72 (1) ⟨u246, _, rfl⟩ rfl rfl rfl (by decide) (by omega) (by omega) (fun z69 h69 => ?_)
        refine xgoto ⟨u246, _, rfl⟩ ?_
        exact ih (jj - 1) (by omega) (q + 1) _ (by omega) (by omega) (fun k k1 => by rcases Nat.lt_or_ge k q with g | g; exact hq k g; rw [show k = q by omega, ← hpre q (by omega)]; rw [show kk.toInt.toNat = q by omega] at h55; omega)
      · have n2 : tNum y s mn.toInt mx.toInt pre = 2 := tNum_2r hk (Or.inr (Or.inr ((hn _).mpr ⟨q, by omega, by rw [← hpre q (by omega)]; rw [show kk.toInt.toNat = q by omega] at h55; omega⟩)))
        refine xald 64 ⟨u246, _, rfl⟩ rfl rfl ?_
        refine xcst 65 (2) ⟨u246, _, rfl⟩ rfl (by decide) (fun z64 h64 => ?_)
        refine xcall 68 [.ref 66, .int _] [] hH ⟨u246, _, rfl⟩ rfl rfl rfl rfl rfl (k_rf hH h0 (fun z65 hp65 Z65 hH65 F65 A65 B65 => ⟨_, rfl, ?_⟩))
        exact xretB ⟨u246, _, rfl⟩ rfl (by omega) (hR _ hp65 hH65 (bFr_sub F65 (by decide)) (Or.inr ⟨by rw [n2]; decide, by omega, by omega, by rw [B65]; exact T.1⟩))
theorem k_tkp {d : Nat} {hp : amH} {R : xQ} {y : tY} {s tt : Nat} {pre : List Int} {t mn mx : Int32} (hH : bHk 84 bTT hp) (Y : rB hp = y) (T : rT hp y s) (hs : (s : Int) ≤ rN hp 66 21) (h0 : rN hp 66 24 = 0) (ht : t.toInt = (tt : Int)) (ht2 : tt ≤ 2) (hl : pre.length = tt) (hpre : ∀ k, k < tt → rN hp 81 k = pre.getD k 0)
    (hR : ∀ (z : Int32) hp1, bHk 84 bTT hp1 → bFr wTK hp hp1 → rTk y s tt mn.toInt mx.toInt pre z.toInt hp hp1 → R (.inl (some (.int z))) hp1) : xK (d + 2) 246 [.ref 66, .int t, .int mn, .int mx] hp R := by
  have b0 := b21 hH
  have hEE := tE_le (by rw [← Y]; exact rB_ok hH : tOk (rN hp 66 21).toNat y) (s := s) (by omega)
  obtain ⟨T1, T2, T3, T4⟩ := id T
  refine xin (M := am_m246) rfl rfl rfl ?_
  refine xald 1 ⟨u246, _, rfl⟩ rfl rfl ?_
  refine xgetI 4 hH ⟨u246, _, rfl⟩ rfl rfl (fun z1 h1 => ?_)
  refine xcst 5 (2) ⟨u246, _, rfl⟩ rfl (by decide) (fun z4 h4 => ?_)
  refine xcmp_ne 8 ⟨u246, _, rfl⟩ rfl (fun c5 => ?_) (fun c5 => ?_)
  · refine xald 17 ⟨u246, _, rfl⟩ rfl rfl ?_
    refine xcst 18 (1) ⟨u246, _, rfl⟩ rfl (by decide) (fun z17 h17 => ?_)
    refine xcall 21 [.ref 66, .int _] [] hH ⟨u246, _, rfl⟩ rfl rfl rfl rfl rfl (k_rf hH h0 (fun z18 hp18 Z18 hH18 F18 A18 B18 => ⟨_, rfl, ?_⟩))
    exact xretB ⟨u246, _, rfl⟩ rfl (by omega) (hR _ hp18 hH18 (bFr_sub F18 (by decide)) (Or.inr ⟨by rw [tNum_1r (by omega)]; decide, by omega, by rw [tNum_1r (by omega)]; omega, by rw [B18]; exact T.1⟩))
  · refine xald 9 ⟨u246, _, rfl⟩ rfl rfl ?_
    refine xcall 12 [.ref 66] [] hH ⟨u246, _, rfl⟩ rfl rfl rfl rfl rfl (k_tln hH T (by omega) (fun z9 h9 => ⟨_, rfl, ?_⟩))
    refine xcst 13 (2) ⟨u246, _, rfl⟩ rfl (by decide) (fun z12 h12 => ?_)
    refine xcmp_le 16 ⟨u246, _, rfl⟩ rfl (fun c13 => ?_) (fun c13 => ?_)
    · have k2 : tK y s = 2 ∧ tE y s ≤ s + 2 := by omega
      have v28 := T4 k2.1 k2.2
      refine xald 23 ⟨u246, _, rfl⟩ rfl rfl ?_
      refine xgetI 26 hH ⟨u246, _, rfl⟩ rfl rfl (fun z23 h23 => ?_)
      refine xild 27 ⟨u246, _, rfl⟩ rfl rfl ?_
      refine xild 28 ⟨u246, _, rfl⟩ rfl rfl ?_
      refine xcallS 31 [.int _, .int _, .int _] [] hH ⟨u246, _, rfl⟩ rfl rfl rfl rfl rfl (k_inr (fun z28 h28 => ⟨_, rfl, ?_⟩))
      refine xif_ne 34 ⟨u246, _, rfl⟩ rfl (fun c31 => ?_) (fun c31 => ?_)
      · refine xcst 41 (0) ⟨u246, _, rfl⟩ rfl (by decide) (fun z40 h40 => ?_)
        refine xist2 43 ⟨u246, _, rfl⟩ rfl rfl ?_
        refine m246 hH Y T hs h0 ht ht2 hl hpre k2 v28 (by omega) (by omega) hR tt 0 _ (by omega) (by omega) (fun k k1 => by omega)
      · refine xald 35 ⟨u246, _, rfl⟩ rfl rfl ?_
        refine xcst 36 (2) ⟨u246, _, rfl⟩ rfl (by decide) (fun z35 h35 => ?_)
        refine xcall 39 [.ref 66, .int _] [] hH ⟨u246, _, rfl⟩ rfl rfl rfl rfl rfl (k_rf hH h0 (fun z36 hp36 Z36 hH36 F36 A36 B36 => ⟨_, rfl, ?_⟩))
        exact xretB ⟨u246, _, rfl⟩ rfl (by omega) (hR _ hp36 hH36 (bFr_sub F36 (by decide)) (Or.inr ⟨by rw [tNum_2r k2 (by omega)]; decide, by omega, by rw [tNum_2r k2 (by omega)]; omega, by rw [B36]; exact T.1⟩))
    · refine xald 17 ⟨u246, _, rfl⟩ rfl rfl ?_
      refine xcst 18 (1) ⟨u246, _, rfl⟩ rfl (by decide) (fun z17 h17 => ?_)
      refine xcall 21 [.ref 66, .int _] [] hH ⟨u246, _, rfl⟩ rfl rfl rfl rfl rfl (k_rf hH h0 (fun z18 hp18 Z18 hH18 F18 A18 B18 => ⟨_, rfl, ?_⟩))
      exact xretB ⟨u246, _, rfl⟩ rfl (by omega) (hR _ hp18 hH18 (bFr_sub F18 (by decide)) (Or.inr ⟨by rw [tNum_1r (by omega)]; decide, by omega, by rw [tNum_1r (by omega)]; omega, by rw [B18]; exact T.1⟩))
