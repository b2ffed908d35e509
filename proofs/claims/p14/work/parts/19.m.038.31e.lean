/-! ##### 19.m.038.31e ##### -/
section
/-! ===== the class takes back, saves, restores ===== -/
theorem hyC_fr {hp hp1 : amH} {n : Nat} {h : Nat → sR} {sv : Option sR} (hY : hyC hp n h sv) (F : ∀ c k, 14 ≤ c → c ≤ 48 → bFld hp1 c k = bFld hp c k) : hyC hp1 n h sv := by
  obtain ⟨y1, y2, y3, ⟨f, hA, y4⟩, y5⟩ := hY
  refine ⟨(rN_eq (F 14 0 (by decide) (by decide))).trans y1, y2, fun s hs => ?_, ⟨f, ⟨fun k hk => ⟨(hA.1 k hk).1, (hA.1 k hk).2.1, (F 15 k (by decide) (by decide)).trans (hA.1 k hk).2.2⟩, hA.2⟩, fun k hk => ?_⟩, hyS_fr y5 (rN_eq (F 14 3 (by decide) (by decide))) (fun c c1 c2 k => F c k (by omega) (by omega))⟩
  · have := sn_mod hs
    exact ⟨(F s 2 (by omega) (by omega)).trans (y3 s hs).1, (F s 3 (by omega) (by omega)).trans (y3 s hs).2⟩
  · have := sn_mod (hA.1 k (by omega)).1
    exact snOk_fr (y4 k hk) (fun c c1 c2 j => F c j (by omega) (by omega))
/-- the depth set -/
theorem hyC_dep {hp hp1 : amH} {n m : Nat} {h : Nat → sR} {sv : Option sR} {z : Int} (hY : hyC hp n h sv) (U : rU hp hp1 14 0 z) (hz : z = (m : Int)) (hm : m ≤ n) : hyC hp1 m h sv := by
  obtain ⟨y1, y2, y3, ⟨f, hA, y4⟩, y5⟩ := hY
  refine ⟨U.1.trans hz, by omega, fun s hs => ?_, ⟨f, ⟨fun k hk => ⟨(hA.1 k hk).1, (hA.1 k hk).2.1, (U.2 15 k (by omega)).trans (hA.1 k hk).2.2⟩, hA.2⟩, fun k hk => ?_⟩, hyS_fr y5 (rU_ne U (by first | decide | exact (fun z => absurd z.1 (by decide)) | omega)) (fun c c1 c2 k => U.2 c k (by omega))⟩
  · have := sn_mod hs
    exact ⟨(U.2 s 2 (by omega)).trans (y3 s hs).1, (U.2 s 3 (by omega)).trans (y3 s hs).2⟩
  · have := sn_mod (hA.1 k (by omega)).1
    exact snOk_fr (y4 k (by omega)) (fun c c1 c2 j => U.2 c j (by omega))
theorem k_tkb {d n : Nat} {h : Nat → sR} {sv : Option sR} {hp : amH} {R : xQ} (hH : bHk 84 bTT hp) (hY : hyC hp n h sv)
    (hR : ∀ (z : Int32) hp1, bHk 84 bTT hp1 → bFx [3, 4, 6, 13, 14] hp hp1 → ((n = 0 ∧ z.toInt = 0 ∧ hp1 = hp) ∨ (0 < n ∧ z.toInt = 1 ∧ hyC hp1 (n - 1) h sv ∧ bdOk hp1 3 (h (n - 1)).1 (h (n - 1)).2.1 ∧ ∀ i, i < 3 → rN hp1 13 i = (h (n - 1)).2.2 i)) → R (.inl (some (.int z))) hp1) : xK (d + 4) 52 [.ref 14, .ref 3, .ref 13] hp R := by
  obtain ⟨y1, y2, y3, ⟨f, hA, y4⟩, y5⟩ := id hY
  refine xin (M := am_m52) rfl rfl rfl ?_
  refine xald 1 ⟨u52, _, rfl⟩ rfl rfl ?_
  refine xgetC 4 hH ⟨u52, _, rfl⟩ rfl (by decide) (by decide) rfl rfl (by decide) (fun z1 h1 => ?_)
  refine xcst 5 (1) ⟨u52, _, rfl⟩ rfl (by decide) (fun z4 h4 => ?_)
  refine xcmp_lt 8 ⟨u52, _, rfl⟩ rfl (fun c5 => ?_) (fun c5 => ?_)
  · refine xcst 35 (0) ⟨u52, _, rfl⟩ rfl (by decide) (fun z34 h34 => ?_)
    exact xretB ⟨u52, _, rfl⟩ rfl (by omega) (hR _ hp hH bFx.refl (Or.inl ⟨by omega, h34, rfl⟩))
  · refine xald 9 ⟨u52, _, rfl⟩ rfl rfl ?_
    refine xgetC 12 hH ⟨u52, _, rfl⟩ rfl (by decide) (by decide) rfl rfl (by decide) (fun z9 h9 => ?_)
    refine xald 13 ⟨u52, _, rfl⟩ rfl rfl ?_
    refine xgetD 16 (15) hH ⟨u52, _, rfl⟩ rfl (by decide) (by decide) rfl rfl (by decide) ?_
    refine xlen 17 hH ⟨u52, _, rfl⟩ rfl (by decide) rfl (by decide) (by decide) (fun z16 h16 => ?_)
    refine xcmp_gt 20 ⟨u52, _, rfl⟩ rfl (fun c17 => ?_) (fun c17 => ?_)
    · omega
    · obtain ⟨m1, m2, m3⟩ := hA.1 (n - 1) (by omega)
      have mm := sn_mod m1
      refine xald 21 ⟨u52, _, rfl⟩ rfl rfl ?_
      refine xgetD 24 (15) hH ⟨u52, _, rfl⟩ rfl (by decide) (by decide) rfl rfl (by decide) ?_
      refine xald 25 ⟨u52, _, rfl⟩ rfl rfl ?_
      refine xgetC 28 hH ⟨u52, _, rfl⟩ rfl (by decide) (by decide) rfl rfl (by decide) (fun z25 h25 => ?_)
      refine xcst 29 (1) ⟨u52, _, rfl⟩ rfl (by decide) (fun z28 h28 => ?_)
      refine xsub 30 _ ⟨u52, _, rfl⟩ rfl rfl (by omega) (by omega) (fun z29 h29 => ?_)
      refine xaald 31 (n - 1) (f (n - 1)) hH ⟨u52, _, rfl⟩ rfl (by decide) rfl (by omega) (by omega) (m3) ?_
      refine xnonnull ⟨u52, _, rfl⟩ ?_
      refine xald 37 ⟨u52, _, rfl⟩ rfl rfl ?_
      refine xdup 38 ⟨u52, _, rfl⟩ rfl rfl ?_
      refine xgetC 41 hH ⟨u52, _, rfl⟩ rfl (by decide) (by decide) rfl rfl (by decide) (fun z38 h38 => ?_)
      refine xcst 42 (1) ⟨u52, _, rfl⟩ rfl (by decide) (fun z41 h41 => ?_)
      refine xsub 43 _ ⟨u52, _, rfl⟩ rfl rfl (by omega) (by omega) (fun z42 h42 => ?_)
      refine xputC 46 hH ⟨u52, _, rfl⟩ rfl (by decide) (by decide) rfl rfl (by decide) ⟨rfl, rfl⟩ (by omega) (by omega) (fun hp43 hH43 U43 => ?_)
      have s43 := U43.1
      have Y43 : hyC hp43 (n - 1) h sv := hyC_dep hY U43 (by omega) (by omega)
      refine xald 47 ⟨u52, _, rfl⟩ rfl rfl ?_
      refine xgetD 50 (15) hH43 ⟨u52, _, rfl⟩ rfl (by decide) (by decide) rfl rfl (by decide) ?_
      refine xald 51 ⟨u52, _, rfl⟩ rfl rfl ?_
      refine xgetC 54 hH43 ⟨u52, _, rfl⟩ rfl (by decide) (by decide) rfl rfl (by decide) (fun z51 h51 => ?_)
      refine xaald 55 (n - 1) (f (n - 1)) hH43 ⟨u52, _, rfl⟩ rfl (by decide) rfl (by omega) (by omega) ((U43.2 15 (n - 1) (by omega)).trans m3) ?_
      refine xald 56 ⟨u52, _, rfl⟩ rfl rfl ?_
      refine xald 57 ⟨u52, _, rfl⟩ rfl rfl ?_
      refine xcallC 60 (o := f (n - 1)) [.ref 3, .ref 13] [] hH43 ⟨u52, _, rfl⟩ rfl rfl (sn_lt m1) (sn_T m1) (by decide) rfl ⟨rfl, rfl, rfl, rfl⟩ rfl (k_gvb m1 (Y43.2.2.1 _ m1) (snOk_fr (y4 (n - 1) (by omega)) (fun c c1 c2 k => U43.2 c k (by omega))) hH43 (fun hp57 hH57 F57 B57 E57 => ⟨_, rfl, ?_⟩))
      refine xcst 61 (1) ⟨u52, _, rfl⟩ rfl (by decide) (fun z60 h60 => ?_)
      exact xretB ⟨u52, _, rfl⟩ rfl (by omega) (hR _ hp57 hH57 ((bFx_U U43 (by simp)).trans (F57.mono (by simp))) (Or.inr ⟨by omega, by omega, hyC_fr Y43 (fun c k c1 c2 => F57 c k (by simp; omega)), B57, E57⟩))
theorem k_sav {d n V : Nat} {h : Nat → sR} {sv : Option sR} {T : sT} {hp : amH} {R : xQ} (hH : bHk 84 bTT hp) (hY : hyC hp n h sv) (hB : bdOk hp 3 V T) (hL : lsN hp 3 T 225)
    (hR : ∀ hp1, bHk 84 bTT hp1 → hyF hp hp1 → hyC hp1 n h (some (V, T, rN hp 13)) → R (.inl none) hp1) : xK (d + 2) 53 [.ref 14, .ref 3, .ref 13] hp R := by
  obtain ⟨y1, y2, y3, ⟨f, hA, y4⟩, y5⟩ := id hY
  have m1 : sn 16 := by unfold sn; simp
  refine xin (M := am_m53) rfl rfl rfl ?_
  refine xald 1 ⟨u53, _, rfl⟩ rfl rfl ?_
  refine xgetD 4 (16) hH ⟨u53, _, rfl⟩ rfl (by decide) (by decide) rfl rfl (by decide) ?_
  refine xald 5 ⟨u53, _, rfl⟩ rfl rfl ?_
  refine xald 6 ⟨u53, _, rfl⟩ rfl rfl ?_
  refine xcallC 9 (o := 16) [.ref 3, .ref 13] [] hH ⟨u53, _, rfl⟩ rfl rfl (by decide) rfl (by decide) rfl ⟨rfl, rfl, rfl, rfl⟩ rfl (k_keep m1 (y3 _ m1) hH hB hL (fun hp6 hH6 F6 f6 s6 => ⟨_, rfl, ?_⟩))
  refine xald 10 ⟨u53, _, rfl⟩ rfl rfl ?_
  refine xcst 11 (1) ⟨u53, _, rfl⟩ rfl (by decide) (fun z10 h10 => ?_)
  refine xputC 14 hH6 ⟨u53, _, rfl⟩ rfl (by decide) (by decide) rfl rfl (by decide) (by rw [show z10 = 1 from Int32.toInt_inj.mp h10]; exact ⟨rfl, rfl⟩) (by omega) (by omega) (fun hp11 hH11 U11 => ?_)
  have s11 := U11.1
  refine xretV ⟨u53, _, rfl⟩ rfl (hR _ hH11 ((hyF_x F6 (fun c hc => by simp at hc; omega)).trans (hyF_U U11 (by decide))) ⟨((rU_ne U11 (by first | decide | exact (fun z => absurd z.1 (by decide)) | omega)).trans (bFx_n F6 (by simp))).trans y1, y2, fun s hs => ?_, ⟨f, ⟨fun k hk => ⟨(hA.1 k hk).1, (hA.1 k hk).2.1, (U11.2 15 k (by omega)).trans ((F6 15 k (by simp)).trans (hA.1 k hk).2.2)⟩, hA.2⟩, fun k hk => ?_⟩, ?_⟩)
  · have := sn_mod hs
    by_cases e : s = 16
    · subst e
      exact ⟨(U11.2 16 2 (by omega)).trans f6.1, (U11.2 16 3 (by omega)).trans f6.2⟩
    · exact ⟨(U11.2 s 2 (by omega)).trans ((F6 s 2 (by simp; omega)).trans (y3 s hs).1), (U11.2 s 3 (by omega)).trans ((F6 s 3 (by simp; omega)).trans (y3 s hs).2)⟩
  · obtain ⟨k1, k2, -⟩ := hA.1 k (by omega)
    have := sn_mod k1
    exact snOk_fr (y4 k hk) (fun c c1 c2 j => (U11.2 c j (by omega)).trans (F6 c j (by simp; omega)))
  · exact ⟨U11.1.trans h10, snOk_fr s6 (fun c c1 c2 j => U11.2 c j (by omega))⟩
theorem k_rsr {d n : Nat} {h : Nat → sR} {sv : Option sR} {hp : amH} {R : xQ} (hH : bHk 84 bTT hp) (hY : hyC hp n h sv)
    (hR : ∀ (z : Int32) hp1, bHk 84 bTT hp1 → bFx [3, 4, 6, 13, 14] hp hp1 → ((sv = none ∧ z.toInt = 0 ∧ hp1 = hp) ∨ (∃ q, sv = some q ∧ z.toInt = 1 ∧ hyC hp1 0 h sv ∧ bdOk hp1 3 q.1 q.2.1 ∧ ∀ i, i < 3 → rN hp1 13 i = q.2.2 i)) → R (.inl (some (.int z))) hp1) : xK (d + 4) 54 [.ref 14, .ref 3, .ref 13] hp R := by
  obtain ⟨y1, y2, y3, ⟨f, hA, y4⟩, y5⟩ := id hY
  have m1 : sn 16 := by unfold sn; simp
  refine xin (M := am_m54) rfl rfl rfl ?_
  refine xald 1 ⟨u54, _, rfl⟩ rfl rfl ?_
  refine xgetC 4 hH ⟨u54, _, rfl⟩ rfl (by decide) (by decide) rfl rfl (by decide) (fun z1 h1 => ?_)
  refine xif_ne 7 ⟨u54, _, rfl⟩ rfl (fun c4 => ?_) (fun c4 => ?_)
  · obtain ⟨q, rfl⟩ : ∃ q, sv = some q := by
      cases sv with
      | none => have y5 : rN hp 14 3 = 0 := y5; omega
      | some q => exact ⟨q, rfl⟩
    have k6 : snOk hp 16 (q.1, q.2.1, q.2.2) := y5.2
    refine xald 10 ⟨u54, _, rfl⟩ rfl rfl ?_
    refine xgetD 13 (16) hH ⟨u54, _, rfl⟩ rfl (by decide) (by decide) rfl rfl (by decide) ?_
    refine xald 14 ⟨u54, _, rfl⟩ rfl rfl ?_
    refine xald 15 ⟨u54, _, rfl⟩ rfl rfl ?_
    refine xcallC 18 (o := 16) [.ref 3, .ref 13] [] hH ⟨u54, _, rfl⟩ rfl rfl (by decide) rfl (by decide) rfl ⟨rfl, rfl, rfl, rfl⟩ rfl (k_gvb m1 (y3 16 m1) k6 hH (fun hp15 hH15 F15 B15 E15 => ⟨_, rfl, ?_⟩))
    have Y15 : hyC hp15 n h (some q) := hyC_fr hY (fun c k c1 c2 => F15 c k (by simp; omega))
    refine xald 19 ⟨u54, _, rfl⟩ rfl rfl ?_
    refine xcst 20 (0) ⟨u54, _, rfl⟩ rfl (by decide) (fun z19 h19 => ?_)
    refine xputC 23 hH15 ⟨u54, _, rfl⟩ rfl (by decide) (by decide) rfl rfl (by decide) ⟨rfl, rfl⟩ (by omega) (by omega) (fun hp20 hH20 U20 => ?_)
    have s20 := U20.1
    refine xcst 24 (1) ⟨u54, _, rfl⟩ rfl (by decide) (fun z23 h23 => ?_)
    exact xretB ⟨u54, _, rfl⟩ rfl (by omega) (hR _ hp20 hH20 ((F15.mono (by simp)).trans (bFx_U U20 (by simp))) (Or.inr ⟨q, rfl, h23, hyC_dep Y15 U20 (by omega) (Nat.zero_le _), bdOk_fr B15 (rU_ne U20 (by first | decide | exact (fun z => absurd z.1 (by decide)) | omega)) (fun i => rU_ne U20 (by first | decide | exact (fun z => absurd z.1 (by decide)) | omega)) (fun i => rU_ne U20 (by first | decide | exact (fun z => absurd z.1 (by decide)) | omega)), fun i hi => by rw [rU_ne U20 (by first | decide | exact (fun z => absurd z.1 (by decide)) | omega)]; exact E15 i hi⟩))
  · refine xcst 8 (0) ⟨u54, _, rfl⟩ rfl (by decide) (fun z7 h7 => ?_)
    exact xretB ⟨u54, _, rfl⟩ rfl (by omega) (hR _ hp hH bFx.refl (Or.inl ⟨by cases sv with | none => rfl | some q => exact absurd y5.1 (by omega), h7, rfl⟩))
end
/-! ##### 19.m.039.31f ##### -/
section
/-! ===== the reference keeps what was ===== -/
theorem rowOk_eq {r r1 : Nat → Int} {q : sR} (h : rowOk r q) (e : ∀ i, i < 229 → r1 i = r i) : rowOk r1 q := by
  obtain ⟨h1, h2, h3, h4, h5⟩ := h
  exact ⟨(e 0 (by decide)).trans h1, h2, fun u v hu hv => (e _ (by omega)).trans (h3 u v hu hv), h4, fun i hi => (e _ (by omega)).trans (h5 i hi)⟩
noncomputable def hyV (hp : amH) (sv : Option sR) : Prop := match sv with
  | none => rN hp 66 6 = 0
  | some q => rN hp 66 6 = 1 ∧ rowOk (rN hp 70) q
noncomputable def hyR (hp : amH) (n : Nat) (h : Nat → sR) (sv : Option sR) : Prop := rN hp 66 5 = (n : Int) ∧ n ≤ 10 ∧ (∀ k, k < n → rowOk (fun i => rN hp 71 (229 * k + i)) (h k)) ∧ hyV hp sv
theorem hyV_fr {hp hp1 : amH} {sv : Option sR} (h : hyV hp sv) (e : rN hp1 66 6 = rN hp 66 6) (F : ∀ i, i < 229 → rN hp1 70 i = rN hp 70 i) : hyV hp1 sv := by
  cases sv with
  | none => exact e.trans h
  | some q => exact ⟨e.trans h.1, rowOk_eq h.2 F⟩
theorem hyR_fr {hp hp1 : amH} {n : Nat} {h : Nat → sR} {sv : Option sR} (hY : hyR hp n h sv) (e5 : rN hp1 66 5 = rN hp 66 5) (e6 : rN hp1 66 6 = rN hp 66 6) (F : ∀ i, rN hp1 70 i = rN hp 70 i) (F1 : ∀ i, rN hp1 71 i = rN hp 71 i) : hyR hp1 n h sv :=
  ⟨e5.trans hY.1, hY.2.1, fun k hk => rowOk_eq (hY.2.2.1 k hk) (fun i _ => F1 _), hyV_fr hY.2.2.2 e6 (fun i _ => F i)⟩
theorem rowOk_V {r : Nat → Int} {q : sR} (h : rowOk r q) : Vf r := by
  obtain ⟨h1, h2, h3, h4, h5⟩ := h
  have a := h2.1
  have b := h2.2.1
  refine ⟨by omega, by omega, fun u v hu hv => ?_⟩
  rcases h2.2.2 u v with g | ⟨c, g1, g2, g3, g4, g5, g6, g7, g8, g9⟩
  · exact Or.inl ((h3 u v hu hv).trans g)
  · exact Or.inr ⟨c, (h3 u v hu hv).trans g1, by omega, by omega, by omega, g5, g6, g7, (h3 v u hv hu).trans g8, (h3 u c hu (by omega)).trans g9⟩
theorem rowOk_rd {hp : amH} {q : sR} (h : rowOk (rN hp 67) q) : rdOk hp q.1 q.2.1 := ⟨h.1, h.2.1, h.2.2.1, h.2.2.2.1⟩
theorem rd_rowOk {hp : amH} {V : Nat} {T : sT} {ty : Nat → Int} (h : rdOk hp V T) (e : ∀ i, i < 3 → rN hp 67 (i + 1) = ty i) : rowOk (rN hp 67) (V, T, ty) := ⟨h.1, h.2.1, h.2.2.1, h.2.2.2, e⟩
theorem k_rmem {d n : Nat} {h : Nat → sR} {sv : Option sR} {q : sR} {hp : amH} {R : xQ} (hH : bHk 84 bTT hp) (hP : P0 hp) (hC : rowOk (rN hp 67) q) (hY : hyR hp n h sv) (hR : ∀ hp1, bHk 84 bTT hp1 → P0 hp1 → bFr wRem hp hp1 → hyR hp1 (pM n + 1) (pH n h q) sv → R (.inl none) hp1) : xK (d + 1) 200 [.ref 66] hp R := by
  refine xin (M := am_m200) rfl rfl rfl ?_
  have j37 : ∀ hp1, bHk 84 bTT hp1 → P0 hp1 → bFr wRem hp hp1 → rN hp1 66 5 = ((pM n : Nat) : Int) → (∀ k, k < pM n → rowOk (fun i => rN hp1 71 (229 * k + i)) (if n = 10 then h (k + 1) else h k)) → xV (d + 1) am_m200 37 [some (.ref 66)] [] hp1 R := by
    intro hp1 hH1 hP1 hF1 h9 hK
    have pm : pM n ≤ 9 := by unfold pM; have := hY.2.1; split <;> omega
    have hb := rb_fld hH1 (f := 5) (lo := 2147483648) (hi := 2147483658) rfl
    obtain ⟨m, hm⟩ : ∃ m : Nat, rN hp1 66 5 = (m : Int) := ⟨(rN hp1 66 5).toNat, by omega⟩
    refine xald 38 ⟨u200, _, rfl⟩ rfl rfl ?_
    refine xgetR 41 67 hH1 ⟨u200, _, rfl⟩ rfl rfl ?_
    refine xcst 42 (0) ⟨u200, _, rfl⟩ rfl (by decide) (fun z41 h41 => ?_)
    refine xald 43 ⟨u200, _, rfl⟩ rfl rfl ?_
    refine xgetR 46 71 hH1 ⟨u200, _, rfl⟩ rfl rfl ?_
    refine xsip 49 (229) ⟨u200, _, rfl⟩ rfl (by decide) (fun z46 h46 => ?_)
    refine xald 50 ⟨u200, _, rfl⟩ rfl rfl ?_
    refine xgetI 53 hH1 ⟨u200, _, rfl⟩ rfl rfl (fun z50 h50 => ?_)
    refine xmul 54 (229 * Int32.toInt z50) ⟨u200, _, rfl⟩ rfl (by rw [h46]) (by omega) (by omega) (fun z53 h53 => ?_)
    refine xsip 57 (229) ⟨u200, _, rfl⟩ rfl (by decide) (fun z54 h54 => ?_)
    refine xcallS 60 [.ref 67, .int _, .ref 71, .int _, .int _] [] hH1 ⟨u200, _, rfl⟩ rfl rfl rfl rfl rfl (k_copy 0 (229 * m) 229 hH1 (by decide) (by decide) (by decide) rfl rfl (by omega) (by omega) (by omega) (by omega) (by omega) (by decide) (fun hp2 hH2 F2 E2 => ⟨_, rfl, ?_⟩))
    refine xald 61 ⟨u200, _, rfl⟩ rfl rfl ?_
    refine xdup 62 ⟨u200, _, rfl⟩ rfl rfl ?_
    have e5 : rN hp2 66 5 = rN hp1 66 5 := r_fr F2 (bIn_ne (by decide))
    refine xgetI 65 hH2 ⟨u200, _, rfl⟩ rfl rfl (fun z62 h62 => ?_)
    refine xcst 66 (1) ⟨u200, _, rfl⟩ rfl (by decide) (fun z65 h65 => ?_)
    refine xadd 67 (m + 1) ⟨u200, _, rfl⟩ rfl (by omega) (by omega) (by omega) (fun z66 h66 => ?_)
    refine xputI 70 hH2 ⟨u200, _, rfl⟩ rfl rfl ⟨rfl, rfl⟩ (by omega) (by omega) (fun hp3 hH3 U3 => ?_)
    have e : ∀ c i, ¬ c = 71 → ¬ (c = 66 ∧ i = 5) → rN hp3 c i = rN hp1 c i := fun c i h1 h2 => (rU_ne U3 h2).trans (r_fr F2 (bIn_ne h1))
    refine xretV ⟨u200, _, rfl⟩ rfl (hR hp3 hH3 ?_ (hF1.trans ((bFr_in F2 (by simp [wRem])).trans (rU_fr U3 rfl))) ?_)
    · refine ⟨Vf_eq (fun i _ => e 67 i (by decide) (by omega)) hP1.1, fun z => Vf_eq (fun i _ => e 70 i (by decide) (by omega)) (hP1.2.1 (by rw [← e 66 6 (by decide) (by omega)]; exact z)), fun k hk hk2 => ?_, fun z => Vf_eq (fun i _ => e 69 i (by decide) (by omega)) (hP1.2.2.2 (by rw [← e 69 0 (by decide) (by omega)]; exact z))⟩
      rw [U3.1] at hk
      by_cases hkm : k = m
      · subst hkm
        refine Vf_eq (r := rN hp1 67) (fun i hi => ?_) hP1.1
        rw [rU_ne U3 (by first | decide | exact (fun z => absurd z.1 (by decide)) | omega), E2 _ (by omega), if_pos (by omega), show 0 + (229 * k + i - 229 * k) = i by omega]
      · refine Vf_eq (r := fun i => rN hp1 71 (229 * k + i)) (fun i hi => ?_) (hP1.2.2.1 k (by omega) hk2)
        rw [rU_ne U3 (by first | decide | exact (fun z => absurd z.1 (by decide)) | omega), E2 _ (by omega), if_neg (by omega)]
    · have em : m = pM n := by omega
      refine ⟨by rw [U3.1]; omega, by omega, fun k hk => ?_, hyV_fr hY.2.2.2 ((e 66 6 (by decide) (by omega)).trans (r_fr hF1 rfl)) (fun i _ => (e 70 i (by decide) (by omega)).trans (r_fr hF1 rfl))⟩
      unfold pH
      by_cases hkm : k = pM n
      · rw [if_pos hkm]
        refine rowOk_eq (r := rN hp 67) hC (fun i hi => ?_)
        rw [rU_ne U3 (by first | decide | exact (fun z => absurd z.1 (by decide)) | omega), E2 _ (by omega), if_pos (by omega), show 0 + (229 * k + i - 229 * m) = i by omega]
        exact r_fr hF1 rfl
      · rw [if_neg hkm]
        refine rowOk_eq (hK k (by omega)) (fun i hi => ?_)
        rw [rU_ne U3 (by first | decide | exact (fun z => absurd z.1 (by decide)) | omega), E2 _ (by omega), if_neg (by omega)]
  refine xald 1 ⟨u200, _, rfl⟩ rfl rfl ?_
  refine xgetI 4 hH ⟨u200, _, rfl⟩ rfl rfl (fun z1 h1 => ?_)
  have hb := rb_fld hH (f := 5) (lo := 2147483648) (hi := 2147483658) rfl
  refine xbip 6 (10) ⟨u200, _, rfl⟩ rfl (by decide) (fun z4 h4 => ?_)
  refine xcmp_ne 9 ⟨u200, _, rfl⟩ rfl (fun c6 => ?_) (fun c6 => ?_)
  · have en : ¬ n = 10 := by have := hY.1; omega
    have pm : pM n = n := by unfold pM; rw [if_neg en]
    exact j37 hp hH hP (bFr.refl _ _) (by rw [pm]; exact hY.1) (fun k hk => by rw [if_neg en]; exact hY.2.2.1 k (by omega))
  · refine xald 10 ⟨u200, _, rfl⟩ rfl rfl ?_
    refine xgetR 13 71 hH ⟨u200, _, rfl⟩ rfl rfl ?_
    refine xsip 16 (229) ⟨u200, _, rfl⟩ rfl (by decide) (fun z13 h13 => ?_)
    refine xald 17 ⟨u200, _, rfl⟩ rfl rfl ?_
    refine xgetR 20 71 hH ⟨u200, _, rfl⟩ rfl rfl ?_
    refine xcst 21 (0) ⟨u200, _, rfl⟩ rfl (by decide) (fun z20 h20 => ?_)
    refine xsip 24 (2061) ⟨u200, _, rfl⟩ rfl (by decide) (fun z21 h21 => ?_)
    refine xcallS 27 [.ref 71, .int _, .ref 71, .int _, .int _] [] hH ⟨u200, _, rfl⟩ rfl rfl rfl rfl rfl (k_shift hH h13 h20 h21 (fun hp2 hH2 F2 E2 => ⟨_, rfl, ?_⟩))
    refine xald 28 ⟨u200, _, rfl⟩ rfl rfl ?_
    refine xdup 29 ⟨u200, _, rfl⟩ rfl rfl ?_
    have e5 : rN hp2 66 5 = rN hp 66 5 := r_fr F2 (bIn_ne (by decide))
    refine xgetI 32 hH2 ⟨u200, _, rfl⟩ rfl rfl (fun z29 h29 => ?_)
    refine xcst 33 (1) ⟨u200, _, rfl⟩ rfl (by decide) (fun z32 h32 => ?_)
    refine xsub 34 9 ⟨u200, _, rfl⟩ rfl (by omega) (by omega) (by omega) (fun z33 h33 => ?_)
    refine xputI 37 hH2 ⟨u200, _, rfl⟩ rfl rfl ⟨rfl, rfl⟩ (by omega) (by omega) (fun hp3 hH3 U3 => ?_)
    have e : ∀ c i, ¬ c = 71 → ¬ (c = 66 ∧ i = 5) → rN hp3 c i = rN hp c i := fun c i h1 h2 => (rU_ne U3 h2).trans (r_fr F2 (bIn_ne h1))
    have en : n = 10 := by have := hY.1; omega
    have pm : pM n = 9 := by unfold pM; rw [if_pos en]
    refine j37 hp3 hH3 ?_ ((bFr_in F2 (by simp [wRem])).trans (rU_fr U3 rfl)) (by rw [U3.1, pm]; exact h33) (fun k hk => by
      rw [if_pos en]
      refine rowOk_eq (hY.2.2.1 (k + 1) (by omega)) (fun i hi => ?_)
      rw [rU_ne U3 (by first | decide | exact (fun z => absurd z.1 (by decide)) | omega), E2 _ (by omega), show 229 + (229 * k + i) = 229 * (k + 1) + i by omega])
    refine ⟨Vf_eq (fun i _ => e 67 i (by decide) (by omega)) hP.1, fun z => Vf_eq (fun i _ => e 70 i (by decide) (by omega)) (hP.2.1 (by rw [← e 66 6 (by decide) (by omega)]; exact z)), fun k hk hk2 => ?_, fun z => Vf_eq (fun i _ => e 69 i (by decide) (by omega)) (hP.2.2.2 (by rw [← e 69 0 (by decide) (by omega)]; exact z))⟩
    rw [U3.1, h33] at hk
    refine Vf_eq (r := fun i => rN hp 71 (229 * (k + 1) + i)) (fun i hi => ?_) (hP.2.2.1 (k + 1) (by omega) (by omega))
    rw [rU_ne U3 (by first | decide | exact (fun z => absurd z.1 (by decide)) | omega), E2 _ (by omega), show 229 + (229 * k + i) = 229 * (k + 1) + i by omega]
theorem P0_dep {hp hp1 : amH} {n : Nat} {m : Int} (U : rU hp hp1 66 5 m) (hn : rN hp 66 5 = (n : Int)) (hm : m ≤ (n : Int)) (hP : P0 hp) : P0 hp1 :=
  ⟨Vf_eq (fun i _ => rU_ne U (by first | decide | exact (fun z => absurd z.1 (by decide)) | omega)) hP.1, fun z => Vf_eq (fun i _ => rU_ne U (by first | decide | exact (fun z => absurd z.1 (by decide)) | omega)) (hP.2.1 (by rw [← rU_ne U (c1 := 66) (i1 := 6) (by omega)]; exact z)), fun k hk hk2 => Vf_eq (fun i _ => rU_ne U (by first | decide | exact (fun z => absurd z.1 (by decide)) | omega)) (hP.2.2.1 k (by rw [U.1] at hk; omega) hk2), fun z => Vf_eq (fun i _ => rU_ne U (by first | decide | exact (fun z => absurd z.1 (by decide)) | omega)) (hP.2.2.2 (by rw [← rU_ne U (c1 := 69) (i1 := 0) (by omega)]; exact z))⟩
theorem k_339 {d n : Nat} {h : Nat → sR} {sv : Option sR} {hp : amH} {R : xQ} (hH : bHk 84 bTT hp) (hP : P0 hp) (hY : hyR hp n h sv)
    (hR : ∀ (z : Int32) hp1, bHk 84 bTT hp1 → P0 hp1 → bFr wM hp hp1 → ((n = 0 ∧ z.toInt = -1 ∧ bFr [(66, 7)] hp hp1) ∨ (0 < n ∧ z.toInt = ((n - 1 : Nat) : Int) ∧ hyR hp1 (n - 1) h sv ∧ rowOk (rN hp1 67) (h (n - 1)))) → R (.inl (some (.int z))) hp1) : xK (d + 1) 339 [.ref 66] hp R := by
  obtain ⟨y1, y2, y3, y4⟩ := id hY
  have b5 := rb_fld hH (f := 5) (lo := 2147483648) (hi := 2147483658) rfl
  refine xin (M := am_m339) rfl rfl rfl ?_
  refine xald 1 ⟨u339, _, rfl⟩ rfl rfl ?_
  refine xcst 2 (0) ⟨u339, _, rfl⟩ rfl (by decide) (fun z1 h1 => ?_)
  refine xputI 5 hH ⟨u339, _, rfl⟩ rfl rfl ⟨rfl, rfl⟩ (by omega) (by omega) (fun hp2 hH2 U2 => ?_)
  have s2 := U2.1
  have n2_66_5 : rN hp2 (66) 5 = rN hp (66) 5 := rU_ne U2 (by first | decide | exact (fun z => absurd z.1 (by decide)) | omega)
  refine xald 6 ⟨u339, _, rfl⟩ rfl rfl ?_
  refine xgetI 9 hH2 ⟨u339, _, rfl⟩ rfl rfl (fun z6 h6 => ?_)
  refine xif_ne 12 ⟨u339, _, rfl⟩ rfl (fun c9 => ?_) (fun c9 => ?_)
  · refine xald 15 ⟨u339, _, rfl⟩ rfl rfl ?_
    refine xdup 16 ⟨u339, _, rfl⟩ rfl rfl ?_
    refine xgetI 19 hH2 ⟨u339, _, rfl⟩ rfl rfl (fun z16 h16 => ?_)
    refine xcst 20 (1) ⟨u339, _, rfl⟩ rfl (by decide) (fun z19 h19 => ?_)
    refine xsub 21 _ ⟨u339, _, rfl⟩ rfl rfl (by omega) (by omega) (fun z20 h20 => ?_)
    refine xputI 24 hH2 ⟨u339, _, rfl⟩ rfl rfl ⟨rfl, rfl⟩ (by omega) (by omega) (fun hp21 hH21 U21 => ?_)
    have s21 := U21.1
    refine xald 25 ⟨u339, _, rfl⟩ rfl rfl ?_
    refine xgetR 28 71 hH21 ⟨u339, _, rfl⟩ rfl rfl ?_
    refine xsip 31 (229) ⟨u339, _, rfl⟩ rfl (by decide) (fun z28 h28 => ?_)
    refine xald 32 ⟨u339, _, rfl⟩ rfl rfl ?_
    refine xgetI 35 hH21 ⟨u339, _, rfl⟩ rfl rfl (fun z32 h32 => ?_)
    refine xmul 36 (229 * Int32.toInt z32) ⟨u339, _, rfl⟩ rfl (by rw [h28]) (by omega) (by omega) (fun z35 h35 => ?_)
    refine xald 37 ⟨u339, _, rfl⟩ rfl rfl ?_
    refine xgetR 40 67 hH21 ⟨u339, _, rfl⟩ rfl rfl ?_
    refine xcst 41 (0) ⟨u339, _, rfl⟩ rfl (by decide) (fun z40 h40 => ?_)
    refine xsip 44 (229) ⟨u339, _, rfl⟩ rfl (by decide) (fun z41 h41 => ?_)
    refine xcallS 47 [.ref 71, .int _, .ref 67, .int _, .int _] [] hH21 ⟨u339, _, rfl⟩ rfl rfl rfl rfl rfl (k_copy (229 * (n - 1)) 0 229 hH21 (by decide) (by decide) (by decide) rfl rfl (by omega) (by omega) (by omega) (by omega) (by omega) (by decide) (fun hp44 hH44 F44 E44 => ⟨_, rfl, ?_⟩))
    have r67 : rowOk (rN hp44 67) (h (n - 1)) := rowOk_eq (y3 (n - 1) (by omega)) (fun i hi => by
      rw [E44 i hi, if_pos (by omega), Nat.sub_zero, rU_ne U21 (by first | decide | exact (fun z => absurd z.1 (by decide)) | omega), rU_ne U2 (by first | decide | exact (fun z => absurd z.1 (by decide)) | omega)])
    have e5 : rN hp44 66 5 = rN hp21 66 5 := r_fr F44 rfl
    have b21 : bFr [(66, 5), (66, 7)] hp hp21 := (rU_fr U2 (by decide)).trans (rU_fr U21 (by decide))
    have hP44 : P0 hp44 := P0_67 F44 (P0_dep (n := n) U21 (by omega) (by omega) (P0_W (W := [(66, 7)]) (by decide) (rU_fr U2 rfl) hP)) (rowOk_V r67)
    refine xald 48 ⟨u339, _, rfl⟩ rfl rfl ?_
    refine xgetI 51 hH44 ⟨u339, _, rfl⟩ rfl rfl (fun z48 h48 => ?_)
    exact xret ⟨u339, _, rfl⟩ rfl (hR _ hp44 hH44 hP44 ((bFr_sub b21 (by decide)).trans (bFr_sub F44 (by decide))) (Or.inr ⟨by omega, by omega, ⟨by rw [e5, U21.1]; omega, by omega, fun k hk => rowOk_eq (y3 k (by omega)) (fun i hi => by
      rw [show rN hp44 71 (229 * k + i) = rN hp21 71 (229 * k + i) from r_fr F44 rfl]
      exact r_fr b21 rfl), hyV_fr y4 ((r_fr F44 rfl).trans (r_fr b21 rfl)) (fun i _ => (r_fr F44 rfl).trans (r_fr b21 rfl))⟩, r67⟩))
  · refine xcst 13 (-1) ⟨u339, _, rfl⟩ rfl (by decide) (fun z12 h12 => ?_)
    exact xret ⟨u339, _, rfl⟩ rfl (hR _ hp2 hH2 (P0_W (W := [(66, 7)]) (by decide) (rU_fr U2 rfl) hP) (rU_fr U2 (by decide)) (Or.inl ⟨by omega, h12, rU_fr U2 rfl⟩))
end
/-! ##### 19.m.040.31g ##### -/
section
/-! ===== the reference: triples put and taken, states saved and restored ===== -/
theorem k_ptR {d V x y z : Nat} {hp : amH} {R : xQ} {T : sT} {ty : Nat → Int} {a b c : Int32} (hH : bHk 84 bTT hp) (hP : P0 hp) (hC : rowOk (rN hp 67) (V, T, ty)) (ha : a.toInt = (x : Int)) (hb : b.toInt = (y : Int)) (hc : c.toInt = (z : Int)) (hx : x < V) (hy : y < V) (hz : z < V) (hxy : ¬ x = y) (hyz : ¬ y = z) (hxz : ¬ x = z) (hf : sFree T x y z)
    (hR : ∀ hp1, bHk 84 bTT hp1 → P0 hp1 → bFr [(67, 999)] hp hp1 → rowOk (rN hp1 67) (V, sPut T x y z, ty) → R (.inl none) hp1) : xK (d + 1) 206 [.ref 66, .int a, .int b, .int c] hp R :=
  k_rput hH hP (rowOk_rd hC) ha hb hc hx hy hz hxy hyz hxz hf (fun hp1 g1 g2 g3 g4 g5 => hR hp1 g1 g2 g3 (rd_rowOk g5 (fun i hi => (g4 (i + 1) (by omega)).trans (hC.2.2.2.2 i hi))))
theorem k_tkR {d V x y z : Nat} {hp : amH} {R : xQ} {T : sT} {ty : Nat → Int} {a b c : Int32} (hH : bHk 84 bTT hp) (hP : P0 hp) (hC : rowOk (rN hp 67) (V, T, ty)) (ha : a.toInt = (x : Int)) (hb : b.toInt = (y : Int)) (hc : c.toInt = (z : Int)) (e : T x y = (z : Int))
    (hR : ∀ hp1, bHk 84 bTT hp1 → P0 hp1 → bFr [(67, 999)] hp hp1 → rowOk (rN hp1 67) (V, sTake T x y z, ty) → R (.inl none) hp1) : xK (d + 1) 207 [.ref 66, .int a, .int b, .int c] hp R := by
  obtain ⟨c1, c2, c3, c4, c5⟩ := id hC
  have hV := c2.2.1
  obtain ⟨k, ek, k1, k2, k3, k4, k5, k6, -⟩ := sOk_at c2 e (by omega)
  have : k = z := by omega
  subst this
  have k1 : x < V := k1
  have k2 : y < V := k2
  have k3 : k < V := k3
  have hV : V ≤ 15 := hV
  refine k_takes hH ha hb hc (by omega) (by omega) (by omega) k4 k6 k5 (fun hp1 g1 g2 g3 g4 => ?_)
  have hC1 : rowOk (rN hp1 67) (V, sTake T x y k, ty) := ⟨(g3 0 (by omega)).trans c1, sOk_take c2 e, fun u v hu hv => by
    have g := g4 u v hu hv
    have g0 : tT hp1 u v = sTake T x y k u v := by
      rw [g]
      unfold sTake
      by_cases hp : sPr x y k u v
      · rw [if_pos hp, if_pos hp]
      · rw [if_neg hp, if_neg hp]
        exact c3 u v hu hv
    exact g0, fun u v h => by
    show sTake T x y k u v = -1
    unfold sTake
    split
    · rfl
    · exact c4 u v h, fun i hi => (g3 (i + 1) (by omega)).trans (c5 i hi)⟩
  exact hR hp1 g1 (P0_67 g2 hP (rowOk_V hC1)) g2 hC1
theorem k_failsE {d : Nat} {hp : amH} {R : xQ} {v e : Int32} (hH : bHk 84 bTT hp) (hv : v.toInt = 0 ∨ v.toInt = 1) (hR : ∀ hp1, bHk 84 bTT hp1 → ((v.toInt = 0 ∧ hp1 = hp) ∨ (v.toInt = 1 ∧ rU hp hp1 66 7 e.toInt)) → R (.inl (some (.int v))) hp1) : xK d 197 [.ref 66, .int v, .int e] hp R := by
  have em := aMin e
  have ex := aMax e
  refine xin (M := am_m197) rfl rfl rfl ?_
  refine xild 1 ⟨u197, _, rfl⟩ rfl rfl ?_
  refine xif_eq 4 ⟨u197, _, rfl⟩ rfl (fun c1 => ?_) (fun c1 => ?_)
  · refine xild 10 ⟨u197, _, rfl⟩ rfl rfl ?_
    exact xretB ⟨u197, _, rfl⟩ rfl (by omega) (hR _ hH (Or.inl ⟨by omega, rfl⟩))
  · refine xald 5 ⟨u197, _, rfl⟩ rfl rfl ?_
    refine xild 6 ⟨u197, _, rfl⟩ rfl rfl ?_
    refine xputI 9 hH ⟨u197, _, rfl⟩ rfl rfl ⟨rfl, rfl⟩ (by omega) (by omega) (fun hp6 hH6 U6 => ?_)
    have s6 := U6.1
    refine xild 10 ⟨u197, _, rfl⟩ rfl rfl ?_
    exact xretB ⟨u197, _, rfl⟩ rfl (by omega) (hR _ hH6 (Or.inr ⟨by omega, U6⟩))
theorem k_340E {d n : Nat} {h : Nat → sR} {sv : Option sR} {q : sR} {hp : amH} {R : xQ} (hH : bHk 84 bTT hp) (hP : P0 hp) (hC : rowOk (rN hp 67) q) (hY : hyR hp n h sv)
    (hR : ∀ (z : Int32) hp1, bHk 84 bTT hp1 → P0 hp1 → bFr wM hp hp1 → rowOk (rN hp1 67) q → hyR hp1 n h (some q) → z.toInt = (((trL q.2.1 225).length : Nat) : Int) → R (.inl (some (.int z))) hp1) : xK (d + 3) 340 [.ref 66] hp R := by
  obtain ⟨y1, y2, y3, y4⟩ := id hY
  refine xin (M := am_m340) rfl rfl rfl ?_
  refine xald 1 ⟨u340, _, rfl⟩ rfl rfl ?_
  refine xcst 2 (0) ⟨u340, _, rfl⟩ rfl (by decide) (fun z1 h1 => ?_)
  refine xputI 5 hH ⟨u340, _, rfl⟩ rfl rfl ⟨rfl, rfl⟩ (by omega) (by omega) (fun hp2 hH2 U2 => ?_)
  have s2 := U2.1
  refine xald 6 ⟨u340, _, rfl⟩ rfl rfl ?_
  refine xgetR 9 67 hH2 ⟨u340, _, rfl⟩ rfl rfl ?_
  refine xcst 10 (0) ⟨u340, _, rfl⟩ rfl (by decide) (fun z9 h9 => ?_)
  refine xald 11 ⟨u340, _, rfl⟩ rfl rfl ?_
  refine xgetR 14 70 hH2 ⟨u340, _, rfl⟩ rfl rfl ?_
  refine xcst 15 (0) ⟨u340, _, rfl⟩ rfl (by decide) (fun z14 h14 => ?_)
  refine xsip 18 (229) ⟨u340, _, rfl⟩ rfl (by decide) (fun z15 h15 => ?_)
  refine xcallS 21 [.ref 67, .int _, .ref 70, .int _, .int _] [] hH2 ⟨u340, _, rfl⟩ rfl rfl rfl rfl rfl (k_copy 0 0 229 hH2 (by decide) (by decide) (by decide) rfl rfl (by omega) (by omega) (by omega) (by omega) (by omega) (by decide) (fun hp18 hH18 F18 E18 => ⟨_, rfl, ?_⟩))
  have r70 : rowOk (rN hp18 70) q := rowOk_eq hC (fun i hi => by
    rw [E18 i hi, if_pos (by omega), Nat.sub_zero, Nat.zero_add, rU_ne U2 (by first | decide | exact (fun z => absurd z.1 (by decide)) | omega)])
  have C18 : rowOk (rN hp18 67) q := rowOk_eq hC (fun i hi => (r_fr F18 rfl).trans (rU_ne U2 (by first | decide | exact (fun z => absurd z.1 (by decide)) | omega)))
  have P18 : P0 hp18 := P0_no (P0_W (W := [(66, 7)]) (by decide) (rU_fr U2 rfl) hP) F18 (fun z => absurd z (by decide)) (fun z => absurd z (by decide)) (fun _ => rowOk_V r70) (by decide) (by decide)
  refine xald 22 ⟨u340, _, rfl⟩ rfl rfl ?_
  refine xcst 23 (1) ⟨u340, _, rfl⟩ rfl (by decide) (fun z22 h22 => ?_)
  refine xputI 26 hH18 ⟨u340, _, rfl⟩ rfl rfl (by rw [show z22 = 1 from Int32.toInt_inj.mp h22]; exact ⟨rfl, rfl⟩) (by omega) (by omega) (fun hp23 hH23 U23 => ?_)
  have s23 := U23.1
  have C23 : rowOk (rN hp23 67) q := rowOk_eq C18 (fun i hi => rU_ne U23 (by first | decide | exact (fun z => absurd z.1 (by decide)) | omega))
  have r70b : rowOk (rN hp23 70) q := rowOk_eq r70 (fun i hi => rU_ne U23 (by first | decide | exact (fun z => absurd z.1 (by decide)) | omega))
  have P23 : P0 hp23 := ⟨rowOk_V C23, fun _ => rowOk_V r70b, fun k hk hk2 => Vf_eq (fun i _ => rU_ne U23 (by first | decide | exact (fun z => absurd z.1 (by decide)) | omega)) (P18.2.2.1 k (by rw [← rU_ne U23 (c1 := 66) (i1 := 5) (by omega)]; exact hk) hk2), fun z => Vf_eq (fun i _ => rU_ne U23 (by first | decide | exact (fun z => absurd z.1 (by decide)) | omega)) (P18.2.2.2 (by rw [← rU_ne U23 (c1 := 69) (i1 := 0) (by omega)]; exact z))⟩
  have Y23 : hyR hp23 n h (some q) := ⟨((rU_ne U23 (by first | decide | exact (fun z => absurd z.1 (by decide)) | omega)).trans ((r_fr F18 rfl).trans (rU_ne U2 (by first | decide | exact (fun z => absurd z.1 (by decide)) | omega)))).trans y1, y2, fun k hk => rowOk_eq (y3 k hk) (fun i _ => (rU_ne U23 (by first | decide | exact (fun z => absurd z.1 (by decide)) | omega)).trans ((r_fr F18 rfl).trans (rU_ne U2 (by first | decide | exact (fun z => absurd z.1 (by decide)) | omega)))), U23.1.trans h22, r70b⟩
  refine xald 27 ⟨u340, _, rfl⟩ rfl rfl ?_
  refine xcall 30 [.ref 66] [] hH23 ⟨u340, _, rfl⟩ rfl rfl rfl rfl rfl (k_rtm hH23 (V := q.1) (T := q.2.1) (rowOk_rd C23) (fun z27 hp27 hH27 F27 B27 L27 e27 => ⟨_, rfl, ?_⟩))
  have hP27 : P0 hp27 := P0_W (W := bLT) (by decide) F27 P23
  exact xret ⟨u340, _, rfl⟩ rfl (hR _ hp27 hH27 hP27 ((((rU_fr U2 (by decide)).trans (bFr_sub F18 (by decide))).trans (rU_fr U23 (by decide))).trans (bFr_sub F27 (by decide))) (rowOk_eq C23 (fun i _ => r_fr F27 rfl)) (hyR_fr Y23 (r_fr F27 rfl) (r_fr F27 rfl) (fun i => r_fr F27 rfl) (fun i => r_fr F27 rfl)) e27)
theorem k_341E {d n : Nat} {h : Nat → sR} {sv : Option sR} {q0 : sR} {hp : amH} {R : xQ} (hH : bHk 84 bTT hp) (hP : P0 hp) (hC : rowOk (rN hp 67) q0) (hY : hyR hp n h sv)
    (hR : ∀ (z : Int32) hp1, bHk 84 bTT hp1 → P0 hp1 → bFr wM hp hp1 → ((sv = none ∧ rN hp1 66 7 = 1 ∧ rowOk (rN hp1 67) q0 ∧ hyR hp1 n h none) ∨ (∃ q, sv = some q ∧ rN hp1 66 7 = 0 ∧ rowOk (rN hp1 67) q ∧ hyR hp1 0 h (some q) ∧ z.toInt = (((trL q.2.1 225).length : Nat) : Int))) → R (.inl (some (.int z))) hp1) : xK (d + 3) 341 [.ref 66] hp R := by
  obtain ⟨y1, y2, y3, y4⟩ := id hY
  have b6 := rb_fld hH (f := 6) (lo := 2147483648) (hi := 2147483649) rfl
  refine xin (M := am_m341) rfl rfl rfl ?_
  refine xald 1 ⟨u341, _, rfl⟩ rfl rfl ?_
  refine xcst 2 (0) ⟨u341, _, rfl⟩ rfl (by decide) (fun z1 h1 => ?_)
  refine xputI 5 hH ⟨u341, _, rfl⟩ rfl rfl ⟨rfl, rfl⟩ (by omega) (by omega) (fun hp2 hH2 U2 => ?_)
  have s2 := U2.1
  have n2_66_6 : rN hp2 (66) 6 = rN hp (66) 6 := rU_ne U2 (by first | decide | exact (fun z => absurd z.1 (by decide)) | omega)
  refine xald 6 ⟨u341, _, rfl⟩ rfl rfl ?_
  refine xald 7 ⟨u341, _, rfl⟩ rfl rfl ?_
  refine xgetI 10 hH2 ⟨u341, _, rfl⟩ rfl rfl (fun z7 h7 => ?_)
  refine xif_ne 13 ⟨u341, _, rfl⟩ rfl (fun c10 => ?_) (fun c10 => ?_)
  · refine xcst 18 (0) ⟨u341, _, rfl⟩ rfl (by decide) (fun z17 h17 => ?_)
    refine xcst 19 (1) ⟨u341, _, rfl⟩ rfl (by decide) (fun z18 h18 => ?_)
    refine xcall 22 [.ref 66, .int _, .int _] [] hH2 ⟨u341, _, rfl⟩ rfl rfl rfl rfl rfl (k_failsE hH2 (by omega) (fun hp19 hH19 V19 => ⟨_, rfl, ?_⟩))
    refine xif_eq 25 ⟨u341, _, rfl⟩ rfl (fun c22 => ?_) (fun c22 => ?_)
    · obtain ⟨q, rfl⟩ : ∃ q, sv = some q := by
        cases sv with
        | none => have y4 : rN hp 66 6 = 0 := y4; omega
        | some q => exact ⟨q, rfl⟩
      have y4 : rN hp 66 6 = 1 ∧ rowOk (rN hp 70) q := y4
      have e19 : hp19 = hp2 := by
        rcases V19 with ⟨a, e⟩ | ⟨a, -⟩
        · exact e
        · omega
      subst e19
      refine xald 28 ⟨u341, _, rfl⟩ rfl rfl ?_
      refine xgetR 31 70 hH19 ⟨u341, _, rfl⟩ rfl rfl ?_
      refine xcst 32 (0) ⟨u341, _, rfl⟩ rfl (by decide) (fun z31 h31 => ?_)
      refine xald 33 ⟨u341, _, rfl⟩ rfl rfl ?_
      refine xgetR 36 67 hH19 ⟨u341, _, rfl⟩ rfl rfl ?_
      refine xcst 37 (0) ⟨u341, _, rfl⟩ rfl (by decide) (fun z36 h36 => ?_)
      refine xsip 40 (229) ⟨u341, _, rfl⟩ rfl (by decide) (fun z37 h37 => ?_)
      refine xcallS 43 [.ref 70, .int _, .ref 67, .int _, .int _] [] hH19 ⟨u341, _, rfl⟩ rfl rfl rfl rfl rfl (k_copy 0 0 229 hH19 (by decide) (by decide) (by decide) rfl rfl (by omega) (by omega) (by omega) (by omega) (by omega) (by decide) (fun hp40 hH40 F40 E40 => ⟨_, rfl, ?_⟩))
      have C40 : rowOk (rN hp40 67) q := rowOk_eq y4.2 (fun i hi => by rw [E40 i hi, if_pos (by omega), Nat.sub_zero, Nat.zero_add, rU_ne U2 (by first | decide | exact (fun z => absurd z.1 (by decide)) | omega)])
      have P40 : P0 hp40 := P0_67 F40 (P0_W (W := [(66, 7)]) (by decide) (rU_fr U2 rfl) hP) (rowOk_V C40)
      refine xald 44 ⟨u341, _, rfl⟩ rfl rfl ?_
      refine xcst 45 (0) ⟨u341, _, rfl⟩ rfl (by decide) (fun z44 h44 => ?_)
      refine xputI 48 hH40 ⟨u341, _, rfl⟩ rfl rfl ⟨rfl, rfl⟩ (by omega) (by omega) (fun hp45 hH45 U45 => ?_)
      have s45 := U45.1
      have n45_66_6 : rN hp45 (66) 6 = rN hp40 (66) 6 := rU_ne U45 (by first | decide | exact (fun z => absurd z.1 (by decide)) | omega)
      have C45 : rowOk (rN hp45 67) q := rowOk_eq C40 (fun i _ => rU_ne U45 (by first | decide | exact (fun z => absurd z.1 (by decide)) | omega))
      have g5 : rN hp40 66 5 = (n : Int) := ((r_fr F40 rfl).trans (rU_ne U2 (by first | decide | exact (fun z => absurd z.1 (by decide)) | omega))).trans y1
      have P45 : P0 hp45 := P0_dep (n := n) U45 g5 (by omega) P40
      have Y45 : hyR hp45 0 h (some q) := ⟨U45.1.trans h44, Nat.zero_le _, fun k hk => absurd hk (Nat.not_lt_zero k), ((rU_ne U45 (by first | decide | exact (fun z => absurd z.1 (by decide)) | omega)).trans ((r_fr F40 rfl).trans (rU_ne U2 (by first | decide | exact (fun z => absurd z.1 (by decide)) | omega)))).trans y4.1, rowOk_eq y4.2 (fun i _ => (rU_ne U45 (by first | decide | exact (fun z => absurd z.1 (by decide)) | omega)).trans ((r_fr F40 rfl).trans (rU_ne U2 (by first | decide | exact (fun z => absurd z.1 (by decide)) | omega))))⟩
      refine xald 49 ⟨u341, _, rfl⟩ rfl rfl ?_
      refine xcall 52 [.ref 66] [] hH45 ⟨u341, _, rfl⟩ rfl rfl rfl rfl rfl (k_rtm hH45 (V := q.1) (T := q.2.1) (rowOk_rd C45) (fun z49 hp49 hH49 F49 B49 L49 e49 => ⟨_, rfl, ?_⟩))
      have hP49 : P0 hp49 := P0_W (W := bLT) (by decide) F49 P45
      exact xret ⟨u341, _, rfl⟩ rfl (hR _ hp49 hH49 hP49 ((((rU_fr U2 (by decide)).trans (bFr_sub F40 (by decide))).trans (rU_fr U45 (by decide))).trans (bFr_sub F49 (by decide))) (Or.inr ⟨q, rfl, ((r_fr F49 rfl).trans ((rU_ne U45 (by first | decide | exact (fun z => absurd z.1 (by decide)) | omega)).trans (r_fr F40 rfl))).trans (U2.1.trans h1), rowOk_eq C45 (fun i _ => r_fr F49 rfl), hyR_fr Y45 (r_fr F49 rfl) (r_fr F49 rfl) (fun i => r_fr F49 rfl) (fun i => r_fr F49 rfl), e49⟩))
    · rcases V19 with ⟨a, -⟩ | ⟨a, -⟩ <;> omega
  · refine xcst 14 (1) ⟨u341, _, rfl⟩ rfl (by decide) (fun z13 h13 => ?_)
    refine xgoto ⟨u341, _, rfl⟩ ?_
    refine xcst 19 (1) ⟨u341, _, rfl⟩ rfl (by decide) (fun z18 h18 => ?_)
    refine xcall 22 [.ref 66, .int _, .int _] [] hH2 ⟨u341, _, rfl⟩ rfl rfl rfl rfl rfl (k_failsE hH2 (by omega) (fun hp19 hH19 V19 => ⟨_, rfl, ?_⟩))
    refine xif_eq 25 ⟨u341, _, rfl⟩ rfl (fun c22 => ?_) (fun c22 => ?_)
    · rcases V19 with ⟨a, -⟩ | ⟨a, -⟩ <;> omega
    · refine xcst 26 (0) ⟨u341, _, rfl⟩ rfl (by decide) (fun z25 h25 => ?_)
      rcases V19 with ⟨a, -⟩ | ⟨a, U19⟩
      · omega
      · refine xret ⟨u341, _, rfl⟩ rfl (hR _ hp19 hH19 (P0_W (W := [(66, 7)]) (by decide) ((rU_fr U2 rfl).trans (rU_fr U19 rfl)) hP) ((rU_fr U2 (by decide)).trans (rU_fr U19 (by decide))) (Or.inl ⟨?_, U19.1.trans h18, rowOk_eq hC (fun i _ => (rU_ne U19 (by first | decide | exact (fun z => absurd z.1 (by decide)) | omega)).trans (rU_ne U2 (by first | decide | exact (fun z => absurd z.1 (by decide)) | omega))), ?_⟩))
        · cases sv with
          | none => rfl
          | some q => exact absurd y4.1 (by omega)
        · cases sv with
          | none => exact hyR_fr hY ((rU_ne U19 (by first | decide | exact (fun z => absurd z.1 (by decide)) | omega)).trans (rU_ne U2 (by first | decide | exact (fun z => absurd z.1 (by decide)) | omega))) ((rU_ne U19 (by first | decide | exact (fun z => absurd z.1 (by decide)) | omega)).trans (rU_ne U2 (by first | decide | exact (fun z => absurd z.1 (by decide)) | omega))) (fun i => (rU_ne U19 (by first | decide | exact (fun z => absurd z.1 (by decide)) | omega)).trans (rU_ne U2 (by first | decide | exact (fun z => absurd z.1 (by decide)) | omega))) (fun i => (rU_ne U19 (by first | decide | exact (fun z => absurd z.1 (by decide)) | omega)).trans (rU_ne U2 (by first | decide | exact (fun z => absurd z.1 (by decide)) | omega)))
          | some q => exact absurd y4.1 (by omega)
end
/-! ##### 19.m.041.32a ##### -/
section
/-! ===== the class drops a triple ===== -/
theorem k_part {d : Nat} {hp : amH} {R : xQ} {o V x y : Nat} {a b : Int32} (ho : bo o) (hH : bHk 84 bTT hp) (hV : rN hp o 0 = (V : Int)) (ha : a.toInt = (x : Int)) (hb : b.toInt = (y : Int)) (hx : x < V) (hy : y < V) (hxy : ¬ x = y) {m n : Nat} (hm : rN hp (o + 3) x = (m : Int)) (hn : rN hp (o + 3) y = (n : Int)) (hm2 : m < 32768) (hn2 : n < 32768)
    (hR : ∀ hp1, bHk 84 bTT hp1 → bFx [o + 1, o + 3] hp hp1 → (∀ u v, u < 15 → v < 15 → rN hp1 (o + 1) (15 * u + v) = if (u = x ∧ v = y) ∨ (u = y ∧ v = x) then -1 else rN hp (o + 1) (15 * u + v)) → rN hp1 (o + 3) x = ((m ||| 2 ^ y : Nat) : Int) → rN hp1 (o + 3) y = ((n ||| 2 ^ x : Nat) : Int) → (∀ p, ¬ p = x → ¬ p = y → rN hp1 (o + 3) p = rN hp (o + 3) p) → R (.inl none) hp1) : xK (d + 1) 17 [.ref o, .int a, .int b] hp R := by
  have q := b_pts hH ho
  refine xin (M := am_m17) rfl rfl (by unfold xAv; simp [amOk, bo_lt ho, Value.category]) ?_
  refine xald 1 ⟨u17, _, rfl⟩ rfl rfl ?_
  refine xild 2 ⟨u17, _, rfl⟩ rfl rfl ?_
  refine xcallC 5 (o := o) [.int _] [] hH ⟨u17, _, rfl⟩ rfl rfl (bo_lt ho) (bo_T ho) (by decide) rfl ⟨rfl, rfl, rfl, rfl⟩ rfl (k_isp ho hH (fun z2 h2 => ⟨_, rfl, ?_⟩))
  refine xif_eq 8 ⟨u17, _, rfl⟩ rfl (fun c5 => ?_) (fun c5 => ?_)
  · omega
  · refine xald 9 ⟨u17, _, rfl⟩ rfl rfl ?_
    refine xild 10 ⟨u17, _, rfl⟩ rfl rfl ?_
    refine xcallC 13 (o := o) [.int _] [] hH ⟨u17, _, rfl⟩ rfl rfl (bo_lt ho) (bo_T ho) (by decide) rfl ⟨rfl, rfl, rfl, rfl⟩ rfl (k_isp ho hH (fun z10 h10 => ⟨_, rfl, ?_⟩))
    refine xif_eq 16 ⟨u17, _, rfl⟩ rfl (fun c13 => ?_) (fun c13 => ?_)
    · omega
    · refine xald 17 ⟨u17, _, rfl⟩ rfl rfl ?_
      refine xgetD 20 (o + 1) hH ⟨u17, _, rfl⟩ rfl (bo_lt ho) (by decide) (bo_T ho) rfl (by decide) ?_
      refine xild 21 ⟨u17, _, rfl⟩ rfl rfl ?_
      refine xbip 23 (15) ⟨u17, _, rfl⟩ rfl (by decide) (fun z21 h21 => ?_)
      refine xmul 24 (Int32.toInt a * 15) ⟨u17, _, rfl⟩ rfl (by rw [h21]) (by omega) (by omega) (fun z23 h23 => ?_)
      refine xild 25 ⟨u17, _, rfl⟩ rfl rfl ?_
      refine xadd 26 _ ⟨u17, _, rfl⟩ rfl rfl (by omega) (by omega) (fun z25 h25 => ?_)
      refine xcst 27 (-1) ⟨u17, _, rfl⟩ rfl (by decide) (fun z26 h26 => ?_)
      refine xiast 28 (z25).toInt.toNat hH ⟨u17, _, rfl⟩ rfl (bo_lt1 ho) (bo_T1 ho) (by omega) (by omega) (by omega) (by omega) (fun hp27 hH27 U27 => ?_)
      have s27 := U27.1
      refine xald 29 ⟨u17, _, rfl⟩ rfl rfl ?_
      refine xgetD 32 (o + 1) hH27 ⟨u17, _, rfl⟩ rfl (bo_lt ho) (by decide) (bo_T ho) rfl (by decide) ?_
      refine xild 33 ⟨u17, _, rfl⟩ rfl rfl ?_
      refine xbip 35 (15) ⟨u17, _, rfl⟩ rfl (by decide) (fun z33 h33 => ?_)
      refine xmul 36 (Int32.toInt b * 15) ⟨u17, _, rfl⟩ rfl (by rw [h33]) (by omega) (by omega) (fun z35 h35 => ?_)
      refine xild 37 ⟨u17, _, rfl⟩ rfl rfl ?_
      refine xadd 38 _ ⟨u17, _, rfl⟩ rfl rfl (by omega) (by omega) (fun z37 h37 => ?_)
      refine xcst 39 (-1) ⟨u17, _, rfl⟩ rfl (by decide) (fun z38 h38 => ?_)
      refine xiast 40 (z37).toInt.toNat hH27 ⟨u17, _, rfl⟩ rfl (bo_lt1 ho) (bo_T1 ho) (by omega) (by omega) (by omega) (by omega) (fun hp39 hH39 U39 => ?_)
      have s39 := U39.1
      refine xald 41 ⟨u17, _, rfl⟩ rfl rfl ?_
      refine xgetD 44 (o + 3) hH39 ⟨u17, _, rfl⟩ rfl (bo_lt ho) (by decide) (bo_T ho) rfl (by decide) ?_
      refine xild 45 ⟨u17, _, rfl⟩ rfl rfl ?_
      refine xdup2 46 ⟨u17, _, rfl⟩ rfl rfl rfl ?_
      refine xiald 47 (a).toInt.toNat hH39 ⟨u17, _, rfl⟩ rfl (bo_lt3 ho) (bo_T3 ho) (by omega) (by omega) (fun z46 h46 => ?_)
      refine xcst 48 (1) ⟨u17, _, rfl⟩ rfl (by decide) (fun z47 h47 => ?_)
      refine xild 49 ⟨u17, _, rfl⟩ rfl rfl ?_
      refine xshl 50 ⟨u17, _, rfl⟩ rfl ?_
      refine xor_ 51 ⟨u17, _, rfl⟩ rfl ?_
      have h46m : z46.toInt = (m : Int) := by rw [h46, rU_ne U39 (by first | decide | exact (fun z => absurd z.1 (by decide)) | omega), rU_ne U27 (by first | decide | exact (fun z => absurd z.1 (by decide)) | omega), show a.toInt.toNat = x by omega]; exact hm
      have w0 := i_shl h47 hb (by omega)
      have w1 := i_or h46m w0.1 hm2 w0.2
      refine xiast 52 (a).toInt.toNat hH39 ⟨u17, _, rfl⟩ rfl (bo_lt3 ho) (bo_T3 ho) (by omega) (by omega) (by omega) (by omega) (fun hp51 hH51 U51 => ?_)
      have s51 := U51.1
      refine xald 53 ⟨u17, _, rfl⟩ rfl rfl ?_
      refine xgetD 56 (o + 3) hH51 ⟨u17, _, rfl⟩ rfl (bo_lt ho) (by decide) (bo_T ho) rfl (by decide) ?_
      refine xild 57 ⟨u17, _, rfl⟩ rfl rfl ?_
      refine xdup2 58 ⟨u17, _, rfl⟩ rfl rfl rfl ?_
      refine xiald 59 (b).toInt.toNat hH51 ⟨u17, _, rfl⟩ rfl (bo_lt3 ho) (bo_T3 ho) (by omega) (by omega) (fun z58 h58 => ?_)
      refine xcst 60 (1) ⟨u17, _, rfl⟩ rfl (by decide) (fun z59 h59 => ?_)
      refine xild 61 ⟨u17, _, rfl⟩ rfl rfl ?_
      refine xshl 62 ⟨u17, _, rfl⟩ rfl ?_
      refine xor_ 63 ⟨u17, _, rfl⟩ rfl ?_
      have h58n : z58.toInt = (n : Int) := by rw [h58, rU_ne U51 (by first | decide | exact (fun z => absurd z.1 (by decide)) | omega), rU_ne U39 (by first | decide | exact (fun z => absurd z.1 (by decide)) | omega), rU_ne U27 (by first | decide | exact (fun z => absurd z.1 (by decide)) | omega), show b.toInt.toNat = y by omega]; exact hn
      have w3 := i_shl h59 ha (by omega)
      have w2 := i_or h58n w3.1 hn2 w3.2
      refine xiast 64 (b).toInt.toNat hH51 ⟨u17, _, rfl⟩ rfl (bo_lt3 ho) (bo_T3 ho) (by omega) (by omega) (by omega) (by omega) (fun hp63 hH63 U63 => ?_)
      have s63 := U63.1
      exact xretV ⟨u17, _, rfl⟩ rfl (hR hp63 hH63 ((((bFx_U U27 (by simp)).trans (bFx_U U39 (by simp))).trans (bFx_U U51 (by simp))).trans (bFx_U U63 (by simp))) (fun u v hu hv => by
          rw [rU_ne U63 (by first | decide | exact (fun z => absurd z.1 (by decide)) | omega), rU_ne U51 (by first | decide | exact (fun z => absurd z.1 (by decide)) | omega)]
          by_cases e2 : u = y ∧ v = x
          · obtain ⟨rfl, rfl⟩ := e2
            rw [if_pos (by omega), show 15 * u + v = z37.toInt.toNat by omega]
            exact U39.1.trans h38
          · rw [rU_ne U39 (by first | decide | exact (fun z => absurd z.1 (by decide)) | omega)]
            by_cases e1 : u = x ∧ v = y
            · obtain ⟨rfl, rfl⟩ := e1
              rw [if_pos (by omega), show 15 * u + v = z25.toInt.toNat by omega]
              exact U27.1.trans h26
            · rw [if_neg (by omega), rU_ne U27 (by first | decide | exact (fun z => absurd z.1 (by decide)) | omega)]) (by rw [rU_ne U63 (by first | decide | exact (fun z => absurd z.1 (by decide)) | omega), show x = a.toInt.toNat by omega, U51.1, w1.1]) (by rw [show y = b.toInt.toNat by omega, U63.1, w2.1]) (fun p p1 p2 => by rw [rU_ne U63 (by first | decide | exact (fun z => absurd z.1 (by decide)) | omega), rU_ne U51 (by first | decide | exact (fun z => absurd z.1 (by decide)) | omega), rU_ne U39 (by first | decide | exact (fun z => absurd z.1 (by decide)) | omega), rU_ne U27 (by first | decide | exact (fun z => absurd z.1 (by decide)) | omega)]))
theorem op_take {V x y z p : Nat} {T : sT} (hV : V ≤ 15) (hx : x < V) (hy : y < V) (hz : z < V) (hxy : ¬ x = y) (hyz : ¬ y = z) (hxz : ¬ x = z) : opN V (sTake T x y z) p = if p = x then opN V T x ||| 2 ^ y ||| 2 ^ z else if p = y then opN V T y ||| 2 ^ x ||| 2 ^ z else if p = z then opN V T z ||| 2 ^ x ||| 2 ^ y else opN V T p := by
  have go : ∀ x y z : Nat, x < V → y < V → z < V → ¬ x = y → ¬ y = z → ¬ x = z → ∀ S : sT, (∀ i, S x i = -1 ↔ (T x i = -1 ∨ i = y ∨ i = z)) → opN V S x = opN V T x ||| 2 ^ y ||| 2 ^ z := by
    intro x y z hx hy hz hxy hyz hxz S hS
    apply Nat.eq_of_testBit_eq
    intro i
    rw [Nat.testBit_or, Nat.testBit_or, op_test hV, op_test hV, p2_test, p2_test]
    have := hS i
    by_cases e1 : i = y
    · subst e1; simp [this, hx, hy, hxy]
    · by_cases e2 : i = z
      · subst e2; simp [this, hx, hz, hxz]
      · simp [this, e1, e2]
  have hS : ∀ p i, ¬ sPr x y z p i → sTake T x y z p i = T p i := fun p i h => by unfold sTake; rw [if_neg h]
  have hS2 : ∀ p i, sPr x y z p i → sTake T x y z p i = -1 := fun p i h => by unfold sTake; rw [if_pos h]
  by_cases e : p = x
  · subst e
    rw [if_pos rfl]
    refine go p y z hx hy hz hxy hyz hxz _ (fun i => ?_)
    by_cases h : sPr p y z p i
    · rw [hS2 _ _ h]
      exact ⟨fun _ => by omega, fun _ => rfl⟩
    · rw [hS _ _ h]
      exact ⟨fun g => Or.inl g, fun g => by rcases g with g | g; exact g; exact absurd ⟨by omega, by omega, by omega⟩ h⟩
  · rw [if_neg e]
    by_cases e : p = y
    · subst e
      rw [if_pos rfl]
      refine go p x z hy hx hz (by omega) hxz hyz _ (fun i => ?_)
      by_cases h : sPr x p z p i
      · rw [hS2 _ _ h]
        exact ⟨fun _ => by omega, fun _ => rfl⟩
      · rw [hS _ _ h]
        exact ⟨fun g => Or.inl g, fun g => by rcases g with g | g; exact g; exact absurd ⟨by omega, by omega, by omega⟩ h⟩
    · rw [if_neg e]
      by_cases e : p = z
      · subst e
        rw [if_pos rfl]
        refine go p x y hz hx hy (by omega) hxy (by omega) _ (fun i => ?_)
        by_cases h : sPr x y p p i
        · rw [hS2 _ _ h]
          exact ⟨fun _ => by omega, fun _ => rfl⟩
        · rw [hS _ _ h]
          exact ⟨fun g => Or.inl g, fun g => by rcases g with g | g; exact g; exact absurd ⟨by omega, by omega, by omega⟩ h⟩
      · rw [if_neg e]
        apply Nat.eq_of_testBit_eq
        intro i
        rw [op_test hV, op_test hV, hS _ _ (by omega)]
theorem k_bdrop {d : Nat} {hp : amH} {R : xQ} {o V x y z : Nat} {T : sT} {s : Int32} (ho : bo o) (hH : bHk 84 bTT hp) (hB : bdOk hp o V T) (hs : s.toInt = ((m3 x y z : Nat) : Int)) (q1 : x < y) (q2 : y < z) (hf : T x y = (z : Int))
    (hR : ∀ hp1, bHk 84 bTT hp1 → bFx [o + 1, o + 3] hp hp1 → bdOk hp1 o V (sTake T x y z) → R (.inl none) hp1) : xK (d + 2) 15 [.ref o, .int s] hp R := by
  obtain ⟨B1, B2, B3, B4, B5⟩ := id hB
  have hV : V ≤ 15 := B2.2.1
  obtain ⟨k, ek, -, -, q3, -⟩ := sOk_at B2 hf (by omega)
  have q3 : z < V := by omega
  obtain ⟨M0, M1, M2⟩ := mem3 q1 q2 (by omega)
  have hm := m3_lt (x := x) (y := y) (z := z) (by omega) (by omega) (by omega)
  have ox := B5 x (by omega)
  have oy := B5 y (by omega)
  have oz := B5 z (by omega)
  have lx := op_lt V T x
  have ly := op_lt V T y
  have lz := op_lt V T z
  have px : 2 ^ x < 2 ^ 15 := Nat.pow_lt_pow_right (by decide) (by omega)
  have py : 2 ^ y < 2 ^ 15 := Nat.pow_lt_pow_right (by decide) (by omega)
  have mx : opN V T x ||| 2 ^ y < 2 ^ 15 := Nat.or_lt_two_pow (by omega) py
  have my : opN V T y ||| 2 ^ x < 2 ^ 15 := Nat.or_lt_two_pow (by omega) px
  have mz : opN V T z ||| 2 ^ x < 2 ^ 15 := Nat.or_lt_two_pow (by omega) px
  refine xin (M := am_m15) rfl rfl (by unfold xAv; simp [amOk, bo_lt ho, Value.category]) ?_
  refine xild 1 ⟨u15, _, rfl⟩ rfl rfl ?_
  refine xcst 2 (0) ⟨u15, _, rfl⟩ rfl (by decide) (fun z1 h1 => ?_)
  refine xcallS 5 [.int _, .int _] [] hH ⟨u15, _, rfl⟩ rfl rfl rfl rfl rfl (k_mem hH hs hm (i := 0) (by omega) (fun z2 h2 => ⟨_, rfl, ?_⟩))
  refine xist 6 ⟨u15, _, rfl⟩ rfl rfl ?_
  refine xild 7 ⟨u15, _, rfl⟩ rfl rfl ?_
  refine xcst 8 (1) ⟨u15, _, rfl⟩ rfl (by decide) (fun z7 h7 => ?_)
  refine xcallS 11 [.int _, .int _] [] hH ⟨u15, _, rfl⟩ rfl rfl rfl rfl rfl (k_mem hH hs hm (i := 1) (by omega) (fun z8 h8 => ⟨_, rfl, ?_⟩))
  refine xist 12 ⟨u15, _, rfl⟩ rfl rfl ?_
  refine xild 13 ⟨u15, _, rfl⟩ rfl rfl ?_
  refine xcst 14 (2) ⟨u15, _, rfl⟩ rfl (by decide) (fun z13 h13 => ?_)
  refine xcallS 17 [.int _, .int _] [] hH ⟨u15, _, rfl⟩ rfl rfl rfl rfl rfl (k_mem hH hs hm (i := 2) (by omega) (fun z14 h14 => ⟨_, rfl, ?_⟩))
  refine xist2 19 ⟨u15, _, rfl⟩ rfl rfl ?_
  refine xald 20 ⟨u15, _, rfl⟩ rfl rfl ?_
  refine xild 21 ⟨u15, _, rfl⟩ rfl rfl ?_
  refine xild 22 ⟨u15, _, rfl⟩ rfl rfl ?_
  refine xcallC 25 (o := o) [.int _, .int _] [] hH ⟨u15, _, rfl⟩ rfl rfl (bo_lt ho) (bo_T ho) (by decide) rfl ⟨rfl, rfl, rfl, rfl⟩ rfl (k_part ho hH (V := V) B1 (x := x) (y := y) (by omega) (by omega) (by omega) (by omega) (by omega) ox oy lx ly (fun hp22 hH22 F22 E22 A22 B22 C22 => ⟨_, rfl, ?_⟩))
  refine xald 26 ⟨u15, _, rfl⟩ rfl rfl ?_
  refine xild 27 ⟨u15, _, rfl⟩ rfl rfl ?_
  refine xild2 29 ⟨u15, _, rfl⟩ rfl rfl ?_
  refine xcallC 32 (o := o) [.int _, .int _] [] hH22 ⟨u15, _, rfl⟩ rfl rfl (bo_lt ho) (bo_T ho) (by decide) rfl ⟨rfl, rfl, rfl, rfl⟩ rfl (k_part ho hH22 (V := V) (by rw [bFx_n F22 (by simp)]; exact B1) (x := x) (y := z) (by omega) (by omega) (by omega) (by omega) (by omega) A22 (by rw [C22 z (by omega) (by omega)]; exact oz) (by omega) lz (fun hp29 hH29 F29 E29 A29 B29 C29 => ⟨_, rfl, ?_⟩))
  refine xald 33 ⟨u15, _, rfl⟩ rfl rfl ?_
  refine xild 34 ⟨u15, _, rfl⟩ rfl rfl ?_
  refine xild2 36 ⟨u15, _, rfl⟩ rfl rfl ?_
  refine xcallC 39 (o := o) [.int _, .int _] [] hH29 ⟨u15, _, rfl⟩ rfl rfl (bo_lt ho) (bo_T ho) (by decide) rfl ⟨rfl, rfl, rfl, rfl⟩ rfl (k_part ho hH29 (V := V) (by rw [bFx_n F29 (by simp), bFx_n F22 (by simp)]; exact B1) (x := y) (y := z) (by omega) (by omega) (by omega) (by omega) (by omega) (by rw [C29 y (by omega) (by omega)]; exact B22) B29 (by omega) (by omega) (fun hp36 hH36 F36 E36 A36 B36 C36 => ⟨_, rfl, ?_⟩))
  have F := (F22.trans F29).trans F36
  have O := fun p => op_take (p := p) (T := T) hV (show x < V by omega) (show y < V by omega) q3 (by omega) (by omega) (by omega)
  exact xretV ⟨u15, _, rfl⟩ rfl (hR hp36 hH36 F ⟨by rw [bFx_n F (by simp)]; exact B1, sOk_take B2 hf, fun u v hu hv => by
      rw [E36 u v hu hv, E29 u v hu hv, E22 u v hu hv, B3 u v hu hv]
      unfold sTake
      by_cases e1 : (u = y ∧ v = z) ∨ (u = z ∧ v = y)
      · rw [if_pos e1, if_pos (by omega)]
      · rw [if_neg e1]
        by_cases e2 : (u = x ∧ v = z) ∨ (u = z ∧ v = x)
        · rw [if_pos e2, if_pos (by omega)]
        · rw [if_neg e2]
          by_cases e3 : (u = x ∧ v = y) ∨ (u = y ∧ v = x)
          · rw [if_pos e3, if_pos (by omega)]
          · rw [if_neg e3, if_neg (by omega)], fun u v h => by
      unfold sTake
      split
      · rfl
      · exact B4 u v h, fun p hp => by
      rw [O p]
      by_cases e1 : p = x
      · subst e1
        rw [if_pos rfl, C36 p (by omega) (by omega)]; exact A29
      · rw [if_neg e1]
        by_cases e2 : p = y
        · subst e2
          rw [if_pos rfl]; exact A36
        · rw [if_neg e2]
          by_cases e3 : p = z
          · subst e3
            rw [if_pos rfl]; exact B36
          · rw [if_neg e3, C36 p e2 e3, C29 p e1 e3, C22 p e1 e2]; exact B5 p hp⟩)
end
