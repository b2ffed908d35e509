/-! ===== the class takes back, saves, restores ===== -/
theorem hyC_fr {hp hp1 : amH} {n : Nat} {h : Nat → sR} {sv : Option sR} (hY : hyC hp n h sv) (F : ∀ c k, 14 ≤ c → c ≤ 48 → bFld hp1 c k = bFld hp c k) : hyC hp1 n h sv := by
  obtain ⟨y1, y2, y3, ⟨f, hA, y4⟩, y5⟩ := hY
  refine ⟨(rN_eq (F 14 0 (by decide) (by decide))).trans y1, y2, fun s hs => ?_, ⟨f, ⟨fun k hk => ⟨(hA.1 k hk).1, (hA.1 k hk).2.1, (F 15 k (by decide) (by decide)).trans (hA.1 k hk).2.2⟩, hA.2⟩, fun k hk => ?_⟩, hyS_fr y5 (rN_eq (F 14 3 (by decide) (by decide))) (fun c c1 c2 k => F c k (by omega) (by omega))⟩
  · have := sn_mod hs
    exact ⟨(F s 2 (by omega) (by omega)).trans (y3 s hs).1, (F s 3 (by omega) (by omega)).trans (y3 s hs).2⟩
  · have := sn_mod (hA.1 k (by omega)).1
    exact snOk_fr (y4 k hk) (fun c c1 c2 j => F c j (by omega) (by omega))
/-- the depth set -/
theorem hyC_dep {hp hp1 : amH} {n m : Nat} {h : Nat → sR} {sv : Option sR} {z : Int} (hY : hyC hp n h sv) (U : rU hp hp1 14 0 z) (hz : z = (m : Int)) (hm : m ≤ n) : hyC hp1 m h sv := by
  obtain ⟨y1, y2, y3, ⟨f, hA, y4⟩, y5⟩ := hY
  refine ⟨U.1.trans hz, by omega, fun s hs => ?_, ⟨f, ⟨fun k hk => ⟨(hA.1 k hk).1, (hA.1 k hk).2.1, (U.2 15 k (by omega)).trans (hA.1 k hk).2.2⟩, hA.2⟩, fun k hk => ?_⟩, hyS_fr y5 (rU_ne U (by omega)) (fun c c1 c2 k => U.2 c k (by omega))⟩
  · have := sn_mod hs
    exact ⟨(U.2 s 2 (by omega)).trans (y3 s hs).1, (U.2 s 3 (by omega)).trans (y3 s hs).2⟩
  · have := sn_mod (hA.1 k (by omega)).1
    exact snOk_fr (y4 k (by omega)) (fun c c1 c2 j => U.2 c j (by omega))
theorem k_tkb {d n : Nat} {h : Nat → sR} {sv : Option sR} {hp : amH} {R : xQ} (hH : bHk 84 bTT hp) (hY : hyC hp n h sv)
    (hR : ∀ (z : Int32) hp1, bHk 84 bTT hp1 → bFx [3, 4, 6, 13, 14] hp hp1 → ((n = 0 ∧ z.toInt = 0 ∧ hp1 = hp) ∨ (0 < n ∧ z.toInt = 1 ∧ hyC hp1 (n - 1) h sv ∧ bdOk hp1 3 (h (n - 1)).1 (h (n - 1)).2.1 ∧ ∀ i, i < 3 → rN hp1 13 i = (h (n - 1)).2.2 i)) → R (.inl (some (.int z))) hp1) : xK (d + 4) 52 [.ref 14, .ref 3, .ref 13] hp R := by
  obtain ⟨y1, y2, y3, ⟨f, hA, y4⟩, y5⟩ := id hY
  refine xin (M := am_m52) rfl rfl rfl ?_
  refine xald 1 ⟨u52, _, rfl⟩ rfl rfl ?_
  refine xgetC 4 hH ⟨u52, _, rfl⟩ rfl (by decide) (by decide) rfl rfl (by decide) (fun z1 h1 => ?_)
  refine xcst 5 (1) ⟨u52, _, rfl⟩ rfl (by decide) (fun z4 h4 => ?_)
  refine xcmp_lt 8 ⟨u52, _, rfl⟩ rfl (fun c5 => ?_) (fun c5 => ?_)
  · refine xcst 35 (0) ⟨u52, _, rfl⟩ rfl (by decide) (fun z34 h34 => ?_)
    exact xretB ⟨u52, _, rfl⟩ rfl (by omega) (hR _ hp hH bFx.refl (Or.inl ⟨by omega, h34, rfl⟩))
  · refine xald 9 ⟨u52, _, rfl⟩ rfl rfl ?_
    refine xgetC 12 hH ⟨u52, _, rfl⟩ rfl (by decide) (by decide) rfl rfl (by decide) (fun z9 h9 => ?_)
    refine xald 13 ⟨u52, _, rfl⟩ rfl rfl ?_
    refine xgetD 16 (15) hH ⟨u52, _, rfl⟩ rfl (by decide) (by decide) rfl rfl (by decide) ?_
    refine xlen 17 hH ⟨u52, _, rfl⟩ rfl (by decide) rfl (by decide) (by decide) (fun z16 h16 => ?_)
    refine xcmp_gt 20 ⟨u52, _, rfl⟩ rfl (fun c17 => ?_) (fun c17 => ?_)
    · omega
    · obtain ⟨m1, m2, m3⟩ := hA.1 (n - 1) (by omega)
      have mm := sn_mod m1
      refine xald 21 ⟨u52, _, rfl⟩ rfl rfl ?_
      refine xgetD 24 (15) hH ⟨u52, _, rfl⟩ rfl (by decide) (by decide) rfl rfl (by decide) ?_
      refine xald 25 ⟨u52, _, rfl⟩ rfl rfl ?_
      refine xgetC 28 hH ⟨u52, _, rfl⟩ rfl (by decide) (by decide) rfl rfl (by decide) (fun z25 h25 => ?_)
      refine xcst 29 (1) ⟨u52, _, rfl⟩ rfl (by decide) (fun z28 h28 => ?_)
      refine xsub 30 _ ⟨u52, _, rfl⟩ rfl rfl (by omega) (by omega) (fun z29 h29 => ?_)
      refine xaald 31 (n - 1) (f (n - 1)) hH ⟨u52, _, rfl⟩ rfl (by decide) rfl (by omega) (by omega) (m3) ?_
      refine xnonnull ⟨u52, _, rfl⟩ ?_
      refine xald 37 ⟨u52, _, rfl⟩ rfl rfl ?_
      refine xdup 38 ⟨u52, _, rfl⟩ rfl rfl ?_
      refine xgetC 41 hH ⟨u52, _, rfl⟩ rfl (by decide) (by decide) rfl rfl (by decide) (fun z38 h38 => ?_)
      refine xcst 42 (1) ⟨u52, _, rfl⟩ rfl (by decide) (fun z41 h41 => ?_)
      refine xsub 43 _ ⟨u52, _, rfl⟩ rfl rfl (by omega) (by omega) (fun z42 h42 => ?_)
      refine xputC 46 hH ⟨u52, _, rfl⟩ rfl (by decide) (by decide) rfl rfl (by decide) ⟨rfl, rfl⟩ (by omega) (by omega) (fun hp43 hH43 U43 => ?_)
      have s43 := U43.1
      have Y43 : hyC hp43 (n - 1) h sv := hyC_dep hY U43 (by omega) (by omega)
      refine xald 47 ⟨u52, _, rfl⟩ rfl rfl ?_
      refine xgetD 50 (15) hH43 ⟨u52, _, rfl⟩ rfl (by decide) (by decide) rfl rfl (by decide) ?_
      refine xald 51 ⟨u52, _, rfl⟩ rfl rfl ?_
      refine xgetC 54 hH43 ⟨u52, _, rfl⟩ rfl (by decide) (by decide) rfl rfl (by decide) (fun z51 h51 => ?_)
      refine xaald 55 (n - 1) (f (n - 1)) hH43 ⟨u52, _, rfl⟩ rfl (by decide) rfl (by omega) (by omega) ((U43.2 15 (n - 1) (by omega)).trans m3) ?_
      refine xald 56 ⟨u52, _, rfl⟩ rfl rfl ?_
      refine xald 57 ⟨u52, _, rfl⟩ rfl rfl ?_
      refine xcallC 60 (o := f (n - 1)) [.ref 3, .ref 13] [] hH43 ⟨u52, _, rfl⟩ rfl rfl (sn_lt m1) (sn_T m1) (by decide) rfl ⟨rfl, rfl, rfl, rfl⟩ rfl (k_gvb m1 (Y43.2.2.1 _ m1) (snOk_fr (y4 (n - 1) (by omega)) (fun c c1 c2 k => U43.2 c k (by omega))) hH43 (fun hp57 hH57 F57 B57 E57 => ⟨_, rfl, ?_⟩))
      refine xcst 61 (1) ⟨u52, _, rfl⟩ rfl (by decide) (fun z60 h60 => ?_)
      exact xretB ⟨u52, _, rfl⟩ rfl (by omega) (hR _ hp57 hH57 ((bFx_U U43 (by simp)).trans (F57.mono (by simp))) (Or.inr ⟨by omega, by omega, hyC_fr Y43 (fun c k c1 c2 => F57 c k (by simp; omega)), B57, E57⟩))
theorem k_sav {d n V : Nat} {h : Nat → sR} {sv : Option sR} {T : sT} {hp : amH} {R : xQ} (hH : bHk 84 bTT hp) (hY : hyC hp n h sv) (hB : bdOk hp 3 V T) (hL : lsN hp 3 T 225)
    (hR : ∀ hp1, bHk 84 bTT hp1 → hyF hp hp1 → hyC hp1 n h (some (V, T, rN hp 13)) → R (.inl none) hp1) : xK (d + 2) 53 [.ref 14, .ref 3, .ref 13] hp R := by
  obtain ⟨y1, y2, y3, ⟨f, hA, y4⟩, y5⟩ := id hY
  have m1 : sn 16 := by unfold sn; simp
  refine xin (M := am_m53) rfl rfl rfl ?_
  refine xald 1 ⟨u53, _, rfl⟩ rfl rfl ?_
  refine xgetD 4 (16) hH ⟨u53, _, rfl⟩ rfl (by decide) (by decide) rfl rfl (by decide) ?_
  refine xald 5 ⟨u53, _, rfl⟩ rfl rfl ?_
  refine xald 6 ⟨u53, _, rfl⟩ rfl rfl ?_
  refine xcallC 9 (o := 16) [.ref 3, .ref 13] [] hH ⟨u53, _, rfl⟩ rfl rfl (by decide) rfl (by decide) rfl ⟨rfl, rfl, rfl, rfl⟩ rfl (k_keep m1 (y3 _ m1) hH hB hL (fun hp6 hH6 F6 f6 s6 => ⟨_, rfl, ?_⟩))
  refine xald 10 ⟨u53, _, rfl⟩ rfl rfl ?_
  refine xcst 11 (1) ⟨u53, _, rfl⟩ rfl (by decide) (fun z10 h10 => ?_)
  refine xputC 14 hH6 ⟨u53, _, rfl⟩ rfl (by decide) (by decide) rfl rfl (by decide) (by rw [show z10 = 1 from Int32.toInt_inj.mp h10]; exact ⟨rfl, rfl⟩) (by omega) (by omega) (fun hp11 hH11 U11 => ?_)
  have s11 := U11.1
  refine xretV ⟨u53, _, rfl⟩ rfl (hR _ hH11 ((hyF_x F6 (fun c hc => by simp at hc; omega)).trans (hyF_U U11 (by decide))) ⟨((rU_ne U11 (by omega)).trans (bFx_n F6 (by simp))).trans y1, y2, fun s hs => ?_, ⟨f, ⟨fun k hk => ⟨(hA.1 k hk).1, (hA.1 k hk).2.1, (U11.2 15 k (by omega)).trans ((F6 15 k (by simp)).trans (hA.1 k hk).2.2)⟩, hA.2⟩, fun k hk => ?_⟩, ?_⟩)
  · have := sn_mod hs
    by_cases e : s = 16
    · subst e
      exact ⟨(U11.2 16 2 (by omega)).trans f6.1, (U11.2 16 3 (by omega)).trans f6.2⟩
    · exact ⟨(U11.2 s 2 (by omega)).trans ((F6 s 2 (by simp; omega)).trans (y3 s hs).1), (U11.2 s 3 (by omega)).trans ((F6 s 3 (by simp; omega)).trans (y3 s hs).2)⟩
  · obtain ⟨k1, k2, -⟩ := hA.1 k (by omega)
    have := sn_mod k1
    exact snOk_fr (y4 k hk) (fun c c1 c2 j => (U11.2 c j (by omega)).trans (F6 c j (by simp; omega)))
  · exact ⟨U11.1.trans h10, snOk_fr s6 (fun c c1 c2 j => U11.2 c j (by omega))⟩
theorem k_rsr {d n : Nat} {h : Nat → sR} {sv : Option sR} {hp : amH} {R : xQ} (hH : bHk 84 bTT hp) (hY : hyC hp n h sv)
    (hR : ∀ (z : Int32) hp1, bHk 84 bTT hp1 → bFx [3, 4, 6, 13, 14] hp hp1 → ((sv = none ∧ z.toInt = 0 ∧ hp1 = hp) ∨ (∃ q, sv = some q ∧ z.toInt = 1 ∧ hyC hp1 0 h sv ∧ bdOk hp1 3 q.1 q.2.1 ∧ ∀ i, i < 3 → rN hp1 13 i = q.2.2 i)) → R (.inl (some (.int z))) hp1) : xK (d + 4) 54 [.ref 14, .ref 3, .ref 13] hp R := by
  obtain ⟨y1, y2, y3, ⟨f, hA, y4⟩, y5⟩ := id hY
  have m1 : sn 16 := by unfold sn; simp
  refine xin (M := am_m54) rfl rfl rfl ?_
  refine xald 1 ⟨u54, _, rfl⟩ rfl rfl ?_
  refine xgetC 4 hH ⟨u54, _, rfl⟩ rfl (by decide) (by decide) rfl rfl (by decide) (fun z1 h1 => ?_)
  refine xif_ne 7 ⟨u54, _, rfl⟩ rfl (fun c4 => ?_) (fun c4 => ?_)
  · obtain ⟨q, rfl⟩ : ∃ q, sv = some q := by
      cases sv with
      | none => have y5 : rN hp 14 3 = 0 := y5; omega
      | some q => exact ⟨q, rfl⟩
    have k6 : snOk hp 16 (q.1, q.2.1, q.2.2) := y5.2
    refine xald 10 ⟨u54, _, rfl⟩ rfl rfl ?_
    refine xgetD 13 (16) hH ⟨u54, _, rfl⟩ rfl (by decide) (by decide) rfl rfl (by decide) ?_
    refine xald 14 ⟨u54, _, rfl⟩ rfl rfl ?_
    refine xald 15 ⟨u54, _, rfl⟩ rfl rfl ?_
    refine xcallC 18 (o := 16) [.ref 3, .ref 13] [] hH ⟨u54, _, rfl⟩ rfl rfl (by decide) rfl (by decide) rfl ⟨rfl, rfl, rfl, rfl⟩ rfl (k_gvb m1 (y3 16 m1) k6 hH (fun hp15 hH15 F15 B15 E15 => ⟨_, rfl, ?_⟩))
    have Y15 : hyC hp15 n h (some q) := hyC_fr hY (fun c k c1 c2 => F15 c k (by simp; omega))
    refine xald 19 ⟨u54, _, rfl⟩ rfl rfl ?_
    refine xcst 20 (0) ⟨u54, _, rfl⟩ rfl (by decide) (fun z19 h19 => ?_)
    refine xputC 23 hH15 ⟨u54, _, rfl⟩ rfl (by decide) (by decide) rfl rfl (by decide) ⟨rfl, rfl⟩ (by omega) (by omega) (fun hp20 hH20 U20 => ?_)
    have s20 := U20.1
    refine xcst 24 (1) ⟨u54, _, rfl⟩ rfl (by decide) (fun z23 h23 => ?_)
    exact xretB ⟨u54, _, rfl⟩ rfl (by omega) (hR _ hp20 hH20 ((F15.mono (by simp)).trans (bFx_U U20 (by simp))) (Or.inr ⟨q, rfl, h23, hyC_dep Y15 U20 (by omega) (Nat.zero_le _), bdOk_fr B15 (rU_ne U20 (by omega)) (fun i => rU_ne U20 (by omega)) (fun i => rU_ne U20 (by omega)), fun i hi => by rw [rU_ne U20 (by omega)]; exact E15 i hi⟩))
  · refine xcst 8 (0) ⟨u54, _, rfl⟩ rfl (by decide) (fun z7 h7 => ?_)
    exact xretB ⟨u54, _, rfl⟩ rfl (by omega) (hR _ hp hH bFx.refl (Or.inl ⟨by cases sv with | none => rfl | some q => exact absurd y5.1 (by omega), h7, rfl⟩))
