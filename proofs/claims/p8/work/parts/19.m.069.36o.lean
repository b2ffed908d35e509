/-! ===== the class loads: its whole state ===== -/
theorem hyC_fga {hp hp1 : amH} {n : Nat} {h : Nat → sR} {sv : Option sR} (hY : hyC hp n h sv) (F : bFr wFg hp hp1) (a : rN hp1 14 0 = 0) (b : rN hp1 14 3 = 0) : hyC hp1 0 h none := by
  obtain ⟨y1, y2, y3, ⟨f, hA, y4⟩, y5⟩ := hY
  refine ⟨a, Nat.zero_le _, fun s hs => ?_, ⟨f, ⟨fun k hk => ⟨(hA.1 k hk).1, (hA.1 k hk).2.1, (F 15 k rfl).trans (hA.1 k hk).2.2⟩, hA.2⟩, fun k hk => absurd hk (Nat.not_lt_zero k)⟩, b⟩
  have c := sn_c hs
  have e : ∀ k, bIn wFg s k = false := fun k => by rcases c with rfl | rfl | rfl | rfl | rfl | rfl | rfl | rfl | rfl | rfl | rfl <;> rfl
  exact ⟨(F s 2 (e 2)).trans (y3 s hs).1, (F s 3 (e 3)).trans (y3 s hs).2⟩
/-- what a load brings: the state as it was, or the text's system alone -/
def rC3 (y : tY) (z : Int) (q : sR) (n : Nat) (h : Nat → sR) (sv : Option sR) (hp1 : amH) : Prop := match tRd y with
  | .inl e => z = -1 ∧ rN hp1 1 1 = e.1 ∧ rN hp1 1 2 = (e.2 : Int) ∧ clS hp1 q n h sv
  | .inr p => z = (((trL p.2 225).length : Nat) : Int) ∧ rN hp1 1 1 = 0 ∧ rN hp1 1 2 = -1 ∧ clS hp1 (p.1, p.2, fun _ => 0) 0 h none
theorem wTy_no {c k : Nat} (h : 14 ≤ c) : bIn wTy c k = false := bIn_out (fun p hp z => by simp [wTy] at hp; rcases hp with rfl | rfl | rfl <;> (have := z.1; omega))
theorem wFg_no {c k : Nat} (h : 66 ≤ c) : bIn wFg c k = false := bIn_out (fun p hp z => by simp [wFg] at hp; rcases hp with rfl | rfl <;> (have := z.1; omega))
theorem k_cldS {d n : Nat} {h : Nat → sR} {sv : Option sR} {q0 : sR} {hp : amH} {R : xQ} {y : tY} (hH : bHk 84 bTT hp) (hS : clS hp q0 n h sv) (Y : cB hp = y)
    (hR : ∀ (z : Int32) hp1, bHk 84 bTT hp1 → (∀ c k, 66 ≤ c → bFld hp1 c k = bFld hp c k) → rN hp1 1 0 = 0 → rC3 y z.toInt q0 n h sv hp1 → R (.inl (some (.int z))) hp1) : xK (d + 7) 115 [.ref 0] hp R := by
  refine xin (M := am_m115) rfl rfl rfl ?_
  refine xald 1 ⟨u115, _, rfl⟩ rfl rfl ?_
  refine xgetD 4 (1) hH ⟨u115, _, rfl⟩ rfl (by decide) (by decide) rfl rfl (by decide) ?_
  refine xald 5 ⟨u115, _, rfl⟩ rfl rfl ?_
  refine xgetD 8 (8) hH ⟨u115, _, rfl⟩ rfl (by decide) (by decide) rfl rfl (by decide) ?_
  refine xcallC 11 (o := 1) [.ref 8] [] hH ⟨u115, _, rfl⟩ rfl rfl (by decide) rfl (by decide) rfl ⟨rfl, rfl, rfl, rfl⟩ rfl (k_read hH Y (fun z8 hp8 hH8 F8 r8 => ⟨_, rfl, ?_⟩))
  have S17 : ∀ hp17 : amH, rU hp8 hp17 1 0 0 → clS hp17 q0 n h sv := fun hp17 U => clS_8 hS (fun c k hc => (U.2 c k (fun z => by omega)).trans (F8 c k (by omega)))
  refine xist 12 ⟨u115, _, rfl⟩ rfl rfl ?_
  refine xald 13 ⟨u115, _, rfl⟩ rfl rfl ?_
  refine xgetD 16 (1) hH8 ⟨u115, _, rfl⟩ rfl (by decide) (by decide) rfl rfl (by decide) ?_
  refine xcst 17 (0) ⟨u115, _, rfl⟩ rfl (by decide) (fun z16 h16 => ?_)
  refine xputC 20 hH8 ⟨u115, _, rfl⟩ rfl (by decide) (by decide) rfl rfl (by decide) ⟨rfl, rfl⟩ (by omega) (by omega) (fun hp17 hH17 U17 => ?_)
  have s17 := U17.1
  refine xild 21 ⟨u115, _, rfl⟩ rfl rfl ?_
  refine xif_ne 24 ⟨u115, _, rfl⟩ rfl (fun c21 => ?_) (fun c21 => ?_)
  · refine xald 27 ⟨u115, _, rfl⟩ rfl rfl ?_
    obtain ⟨q, eq⟩ : ∃ q, tRd y = .inr q := by
      cases e : tRd y with
      | inr q => exact ⟨q, rfl⟩
      | inl er => unfold rRd at r8; rw [e] at r8; have := r8.1; omega
    unfold rRd at r8
    rw [eq] at r8
    obtain ⟨-, B8, c8, e8⟩ := r8
    have B17 : bdOk hp17 8 q.1 q.2 := bdOk_fr B8 (rU_ne U17 (by omega)) (fun i => rU_ne U17 (by omega)) (fun i => rU_ne U17 (by omega))
    refine xgetD 30 (3) hH17 ⟨u115, _, rfl⟩ rfl (by decide) (by decide) rfl rfl (by decide) ?_
    refine xald 31 ⟨u115, _, rfl⟩ rfl rfl ?_
    refine xgetD 34 (8) hH17 ⟨u115, _, rfl⟩ rfl (by decide) (by decide) rfl rfl (by decide) ?_
    refine xcallC 37 (o := 3) [.ref 8] [] hH17 ⟨u115, _, rfl⟩ rfl rfl (by decide) rfl (by decide) rfl ⟨rfl, rfl, rfl, rfl⟩ rfl (k_cpB (o := 3) (o2 := 8) (Or.inl rfl) (Or.inr rfl) (by decide) hH17 B17 (fun hp34 hH34 F34 B34 n34 => ⟨_, rfl, ?_⟩))
    refine xald 38 ⟨u115, _, rfl⟩ rfl rfl ?_
    refine xgetD 41 (13) hH34 ⟨u115, _, rfl⟩ rfl (by decide) (by decide) rfl rfl (by decide) ?_
    refine xcallC 44 (o := 13) [] [] hH34 ⟨u115, _, rfl⟩ rfl rfl (by decide) rfl (by decide) rfl ⟨rfl, rfl, rfl, rfl⟩ rfl (k_tyr hH34 (fun hp41 hH41 F41 Z41 => ⟨_, rfl, ?_⟩))
    refine xald 45 ⟨u115, _, rfl⟩ rfl rfl ?_
    refine xgetD 48 (14) hH41 ⟨u115, _, rfl⟩ rfl (by decide) (by decide) rfl rfl (by decide) ?_
    refine xcallC 51 (o := 14) [] [] hH41 ⟨u115, _, rfl⟩ rfl rfl (by decide) rfl (by decide) rfl ⟨rfl, rfl, rfl, rfl⟩ rfl (k_fga hH41 (fun hp48 hH48 F48 d48 s48 => ⟨_, rfl, ?_⟩))
    refine xald 52 ⟨u115, _, rfl⟩ rfl rfl ?_
    refine xcst 53 (0) ⟨u115, _, rfl⟩ rfl (by decide) (fun z52 h52 => ?_)
    refine xputC 56 hH48 ⟨u115, _, rfl⟩ rfl (by decide) (by decide) rfl rfl (by decide) ⟨rfl, rfl⟩ (by omega) (by omega) (fun hp53 hH53 U53 => ?_)
    have s53 := U53.1
    refine xald 57 ⟨u115, _, rfl⟩ rfl rfl ?_
    refine xcallC 60 (o := 0) [] [] hH53 ⟨u115, _, rfl⟩ rfl rfl (by decide) rfl (by decide) rfl ⟨rfl, rfl, rfl, rfl⟩ rfl (k_stS hH53 (V := q.1) (T := q.2) (ty := fun _ => 0) (n := 0) (h := h) (sv := none) (bdOk_fr B34 ((rU_ne U53 (by omega)).trans ((r_fr F48 rfl).trans (r_fr F41 rfl))) (fun i => (rU_ne U53 (by omega)).trans ((r_fr F48 rfl).trans (r_fr F41 rfl))) (fun i => (rU_ne U53 (by omega)).trans ((r_fr F48 rfl).trans (r_fr F41 rfl)))) (fun i hi => ((rU_ne U53 (by omega)).trans (r_fr F48 rfl)).trans (Z41 i hi)) (hyC_fr (hyC_fga (hyC_fr (S17 hp17 (by rw [← h16]; exact U17)).2.2.2.2 (fun c k c1 c2 => (F41 c k (wTy_no c1)).trans (F34 c k (by simp; omega)))) F48 d48 s48) (fun c k c1 c2 => U53.2 c k (by omega))) (fun hp57 hH57 F57 S57 => ⟨_, rfl, ?_⟩))
    have one : ∀ i, rN hp57 1 i = rN hp17 1 i := fun i => by rw [show rN hp57 1 i = rN hp53 1 i from bFx_n F57 (by simp), rU_ne U53 (by omega), show rN hp48 1 i = rN hp41 1 i from r_fr F48 rfl, show rN hp41 1 i = rN hp34 1 i from r_fr F41 rfl, show rN hp34 1 i = rN hp17 1 i from bFx_n F34 (by simp)]
    refine xald 61 ⟨u115, _, rfl⟩ rfl rfl ?_
    refine xgetD 64 (3) hH57 ⟨u115, _, rfl⟩ rfl (by decide) (by decide) rfl rfl (by decide) ?_
    refine xgetC 67 hH57 ⟨u115, _, rfl⟩ rfl (by decide) (by decide) rfl rfl (by decide) (fun z64 h64 => ?_)
    exact xret ⟨u115, _, rfl⟩ rfl (hR _ hp57 hH57 (fun c k hc => (F57 c k (by simp; omega)).trans ((U53.2 c k (by omega)).trans ((F48 c k (wFg_no hc)).trans ((F41 c k (wTy_no (by omega))).trans ((F34 c k (by simp; omega)).trans ((U17.2 c k (by omega)).trans (F8 c k (by omega)))))))) (by rw [one 0]; omega) (by unfold rC3; rw [eq]; exact ⟨by rw [h64]; exact S57.2.1.1, by rw [one 1, rU_ne U17 (by omega)]; exact c8, by rw [one 2, rU_ne U17 (by omega)]; exact e8, S57⟩))
  · refine xcst 25 (-1) ⟨u115, _, rfl⟩ rfl (by decide) (fun z24 h24 => ?_)
    exact xret ⟨u115, _, rfl⟩ rfl (hR _ hp17 hH17 (fun c k hc => (U17.2 c k (by omega)).trans (F8 c k (by omega))) (by omega) (by unfold rRd at r8; unfold rC3; cases e : tRd y with | inl er => rw [e] at r8; exact ⟨by omega, (rU_ne U17 (by omega)).trans r8.2.1, (rU_ne U17 (by omega)).trans r8.2.2, S17 hp17 (by rw [← h16]; exact U17)⟩ | inr q => rw [e] at r8; have := r8.1; omega))
