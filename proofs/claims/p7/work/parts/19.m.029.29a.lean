/-! ===== loads with the systems that come of them: the class ===== -/
/-- what a load that fails leaves as it was: all but the text, the board aside -/
def pFr' (hp hp1 : amH) : Prop := ∀ c k, ¬ ((c = 1 ∧ ¬ k = 3) ∨ c = 8 ∨ c = 9 ∨ c = 11) → bFld hp1 c k = bFld hp c k
def rC2 (y : tY) (z : Int) (hp hp1 : amH) : Prop := match tRd y with
  | .inl e => z = -1 ∧ rN hp1 1 1 = e.1 ∧ rN hp1 1 2 = (e.2 : Int) ∧ pFr' hp hp1
  | .inr q => z = (((trL q.2 225).length : Nat) : Int) ∧ rN hp1 1 1 = 0 ∧ rN hp1 1 2 = -1 ∧ bdOk hp1 3 q.1 q.2 ∧ lsN hp1 3 q.2 225 ∧ (∀ i, i < 3 → rN hp1 13 i = 0) ∧ rN hp1 14 0 = 0 ∧ rN hp1 14 3 = 0 ∧ rN hp1 0 11 = 0
def wC2 : List (Nat × Nat) := (3, 999) :: wCl
def wTy : List (Nat × Nat) := [(13, 0), (13, 1), (13, 2)]
def wFg : List (Nat × Nat) := [(14, 0), (14, 3)]
def wCb : List (Nat × Nat) := [(3, 999), (4, 999), (6, 999)]
theorem bFr_cb {hp hp1 : amH} (F : bFx [3, 3 + 1, 3 + 3] hp hp1) : bFr wCb hp hp1 := bFx_W F (fun c hc k => by
  simp only [List.mem_cons, List.not_mem_nil, or_false] at hc
  rcases hc with rfl | rfl | rfl
  all_goals exact bIn_all (by decide) k)
theorem u92 : bUp 0 am_m92.1 = true := by decide +kernel
theorem u55 : bUp 0 am_m55.1 = true := by decide +kernel
theorem k_tyr {d : Nat} {hp : amH} {R : xQ} (hH : bHk 84 bTT hp) (hR : ∀ hp1, bHk 84 bTT hp1 → bFr wTy hp hp1 → (∀ i, i < 3 → rN hp1 13 i = 0) → R (.inl none) hp1) : xK d 92 [.ref 13] hp R := by
  refine xin (M := am_m92) rfl rfl rfl ?_
  refine xald 1 ⟨u92, _, rfl⟩ rfl rfl ?_
  refine xcst 2 (0) ⟨u92, _, rfl⟩ rfl (by decide) (fun z1 h1 => ?_)
  refine xputC 5 hH ⟨u92, _, rfl⟩ rfl (by decide) (by decide) rfl rfl (by decide) ⟨rfl, rfl⟩ (by omega) (by omega) (fun hp2 hH2 U2 => ?_)
  have s2 := U2.1
  have n2_13_1 : rN hp2 (13) 1 = rN hp (13) 1 := rU_ne U2 (by omega)
  have n2_13_2 : rN hp2 (13) 2 = rN hp (13) 2 := rU_ne U2 (by omega)
  refine xald 6 ⟨u92, _, rfl⟩ rfl rfl ?_
  refine xcst 7 (0) ⟨u92, _, rfl⟩ rfl (by decide) (fun z6 h6 => ?_)
  refine xputC 10 hH2 ⟨u92, _, rfl⟩ rfl (by decide) (by decide) rfl rfl (by decide) ⟨rfl, rfl⟩ (by omega) (by omega) (fun hp7 hH7 U7 => ?_)
  have s7 := U7.1
  have n7_13_0 : rN hp7 (13) 0 = rN hp2 (13) 0 := rU_ne U7 (by omega)
  have n7_13_2 : rN hp7 (13) 2 = rN hp2 (13) 2 := rU_ne U7 (by omega)
  refine xald 11 ⟨u92, _, rfl⟩ rfl rfl ?_
  refine xcst 12 (0) ⟨u92, _, rfl⟩ rfl (by decide) (fun z11 h11 => ?_)
  refine xputC 15 hH7 ⟨u92, _, rfl⟩ rfl (by decide) (by decide) rfl rfl (by decide) ⟨rfl, rfl⟩ (by omega) (by omega) (fun hp12 hH12 U12 => ?_)
  have s12 := U12.1
  have n12_13_0 : rN hp12 (13) 0 = rN hp7 (13) 0 := rU_ne U12 (by omega)
  have n12_13_1 : rN hp12 (13) 1 = rN hp7 (13) 1 := rU_ne U12 (by omega)
  exact xretV ⟨u92, _, rfl⟩ rfl (hR _ hH12 (((rU_fr U2 (by decide)).trans (rU_fr U7 (by decide))).trans (rU_fr U12 (by decide))) (fun i hi => by rcases (by omega : i = 0 ∨ i = 1 ∨ i = 2) with rfl | rfl | rfl <;> omega))
theorem k_fga {d : Nat} {hp : amH} {R : xQ} (hH : bHk 84 bTT hp) (hR : ∀ hp1, bHk 84 bTT hp1 → bFr wFg hp hp1 → rN hp1 14 0 = 0 → rN hp1 14 3 = 0 → R (.inl none) hp1) : xK d 55 [.ref 14] hp R := by
  refine xin (M := am_m55) rfl rfl rfl ?_
  refine xald 1 ⟨u55, _, rfl⟩ rfl rfl ?_
  refine xcst 2 (0) ⟨u55, _, rfl⟩ rfl (by decide) (fun z1 h1 => ?_)
  refine xputC 5 hH ⟨u55, _, rfl⟩ rfl (by decide) (by decide) rfl rfl (by decide) ⟨rfl, rfl⟩ (by omega) (by omega) (fun hp2 hH2 U2 => ?_)
  have s2 := U2.1
  have n2_14_3 : rN hp2 (14) 3 = rN hp (14) 3 := rU_ne U2 (by omega)
  refine xald 6 ⟨u55, _, rfl⟩ rfl rfl ?_
  refine xcst 7 (0) ⟨u55, _, rfl⟩ rfl (by decide) (fun z6 h6 => ?_)
  refine xputC 10 hH2 ⟨u55, _, rfl⟩ rfl (by decide) (by decide) rfl rfl (by decide) (by rw [show z6 = 0 from Int32.toInt_inj.mp h6]; exact ⟨rfl, rfl⟩) (by omega) (by omega) (fun hp7 hH7 U7 => ?_)
  have s7 := U7.1
  have n7_14_0 : rN hp7 (14) 0 = rN hp2 (14) 0 := rU_ne U7 (by omega)
  exact xretV ⟨u55, _, rfl⟩ rfl (hR _ hH7 ((rU_fr U2 (by decide)).trans (rU_fr U7 (by decide))) (by omega) (by omega))
theorem k_cld2 {d : Nat} {hp : amH} {R : xQ} {y : tY} (hH : bHk 84 bTT hp) (hP : P0 hp) (Y : cB hp = y)
    (hR : ∀ (z : Int32) hp1, bHk 84 bTT hp1 → P0 hp1 → bFr wC2 hp hp1 → rN hp1 1 0 = 0 → rC2 y z.toInt hp hp1 → R (.inl (some (.int z))) hp1) : xK (d + 7) 115 [.ref 0] hp R := by
  refine xin (M := am_m115) rfl rfl rfl ?_
  refine xald 1 ⟨u115, _, rfl⟩ rfl rfl ?_
  refine xgetD 4 (1) hH ⟨u115, _, rfl⟩ rfl (by decide) (by decide) rfl rfl (by decide) ?_
  refine xald 5 ⟨u115, _, rfl⟩ rfl rfl ?_
  refine xgetD 8 (8) hH ⟨u115, _, rfl⟩ rfl (by decide) (by decide) rfl rfl (by decide) ?_
  refine xcallC 11 (o := 1) [.ref 8] [] hH ⟨u115, _, rfl⟩ rfl rfl (by decide) rfl (by decide) rfl ⟨rfl, rfl, rfl, rfl⟩ rfl (k_read hH Y (fun z8 hp8 hH8 F8 r8 => ⟨_, rfl, ?_⟩))
  have hP8 := P0_p F8 hP
  refine xist 12 ⟨u115, _, rfl⟩ rfl rfl ?_
  refine xald 13 ⟨u115, _, rfl⟩ rfl rfl ?_
  refine xgetD 16 (1) hH8 ⟨u115, _, rfl⟩ rfl (by decide) (by decide) rfl rfl (by decide) ?_
  refine xcst 17 (0) ⟨u115, _, rfl⟩ rfl (by decide) (fun z16 h16 => ?_)
  refine xputC 20 hH8 ⟨u115, _, rfl⟩ rfl (by decide) (by decide) rfl rfl (by decide) ⟨rfl, rfl⟩ (by omega) (by omega) (fun hp17 hH17 U17 => ?_)
  have s17 := U17.1
  refine xild 21 ⟨u115, _, rfl⟩ rfl rfl ?_
  refine xif_ne 24 ⟨u115, _, rfl⟩ rfl (fun c21 => ?_) (fun c21 => ?_)
  · refine xald 27 ⟨u115, _, rfl⟩ rfl rfl ?_
    obtain ⟨q, eq⟩ : ∃ q, tRd y = .inr q := by
      cases e : tRd y with
      | inr q => exact ⟨q, rfl⟩
      | inl er => unfold rRd at r8; rw [e] at r8; have := r8.1; omega
    unfold rRd at r8
    rw [eq] at r8
    obtain ⟨-, B8, c8, e8⟩ := r8
    have B17 : bdOk hp17 8 q.1 q.2 := bdOk_fr B8 (rU_ne U17 (by omega)) (fun i => rU_ne U17 (by omega)) (fun i => rU_ne U17 (by omega))
    refine xgetD 30 (3) hH17 ⟨u115, _, rfl⟩ rfl (by decide) (by decide) rfl rfl (by decide) ?_
    refine xald 31 ⟨u115, _, rfl⟩ rfl rfl ?_
    refine xgetD 34 (8) hH17 ⟨u115, _, rfl⟩ rfl (by decide) (by decide) rfl rfl (by decide) ?_
    refine xcallC 37 (o := 3) [.ref 8] [] hH17 ⟨u115, _, rfl⟩ rfl rfl (by decide) rfl (by decide) rfl ⟨rfl, rfl, rfl, rfl⟩ rfl (k_cpB (o := 3) (o2 := 8) (Or.inl rfl) (Or.inr rfl) (by decide) hH17 B17 (fun hp34 hH34 F34 B34 n34 => ⟨_, rfl, ?_⟩))
    have G34 : bFr wCb hp17 hp34 := bFr_cb F34
    have hP34 : P0 hp34 := P0_W (W := wCb) (by decide) G34 (P0_W (W := [(1, 0)]) (by decide) (rU_fr U17 rfl) hP8)
    refine xald 38 ⟨u115, _, rfl⟩ rfl rfl ?_
    refine xgetD 41 (13) hH34 ⟨u115, _, rfl⟩ rfl (by decide) (by decide) rfl rfl (by decide) ?_
    refine xcallC 44 (o := 13) [] [] hH34 ⟨u115, _, rfl⟩ rfl rfl (by decide) rfl (by decide) rfl ⟨rfl, rfl, rfl, rfl⟩ rfl (k_tyr hH34 (fun hp41 hH41 F41 Z41 => ⟨_, rfl, ?_⟩))
    have hP41 : P0 hp41 := P0_W (W := wTy) (by decide) F41 hP34
    refine xald 45 ⟨u115, _, rfl⟩ rfl rfl ?_
    refine xgetD 48 (14) hH41 ⟨u115, _, rfl⟩ rfl (by decide) (by decide) rfl rfl (by decide) ?_
    refine xcallC 51 (o := 14) [] [] hH41 ⟨u115, _, rfl⟩ rfl rfl (by decide) rfl (by decide) rfl ⟨rfl, rfl, rfl, rfl⟩ rfl (k_fga hH41 (fun hp48 hH48 F48 d48 s48 => ⟨_, rfl, ?_⟩))
    have hP48 : P0 hp48 := P0_W (W := wFg) (by decide) F48 hP41
    refine xald 52 ⟨u115, _, rfl⟩ rfl rfl ?_
    refine xcst 53 (0) ⟨u115, _, rfl⟩ rfl (by decide) (fun z52 h52 => ?_)
    refine xputC 56 hH48 ⟨u115, _, rfl⟩ rfl (by decide) (by decide) rfl rfl (by decide) ⟨rfl, rfl⟩ (by omega) (by omega) (fun hp53 hH53 U53 => ?_)
    have s53 := U53.1
    refine xald 57 ⟨u115, _, rfl⟩ rfl rfl ?_
    refine xcallC 60 (o := 0) [] [] hH53 ⟨u115, _, rfl⟩ rfl rfl (by decide) rfl (by decide) rfl ⟨rfl, rfl, rfl, rfl⟩ rfl (k_settle2 hH53 (P0_W (W := [(0, 11)]) (by decide) (rU_fr U53 rfl) hP48) (bdOk_fr B34 ((rU_ne U53 (by omega)).trans ((r_fr F48 rfl).trans (r_fr F41 rfl))) (fun i => (rU_ne U53 (by omega)).trans ((r_fr F48 rfl).trans (r_fr F41 rfl))) (fun i => (rU_ne U53 (by omega)).trans ((r_fr F48 rfl).trans (r_fr F41 rfl)))) (fun hp57 hH57 hP57 F57 B57 L57 => ⟨_, rfl, ?_⟩))
    have one : ∀ i, rN hp57 1 i = rN hp17 1 i := fun i => by rw [show rN hp57 1 i = rN hp53 1 i from r_fr F57 rfl, rU_ne U53 (by omega), show rN hp48 1 i = rN hp41 1 i from r_fr F48 rfl, show rN hp41 1 i = rN hp34 1 i from r_fr F41 rfl, show rN hp34 1 i = rN hp17 1 i from bFx_n F34 (by simp)]
    refine xald 61 ⟨u115, _, rfl⟩ rfl rfl ?_
    refine xgetD 64 (3) hH57 ⟨u115, _, rfl⟩ rfl (by decide) (by decide) rfl rfl (by decide) ?_
    refine xgetC 67 hH57 ⟨u115, _, rfl⟩ rfl (by decide) (by decide) rfl rfl (by decide) (fun z64 h64 => ?_)
    exact xret ⟨u115, _, rfl⟩ rfl (hR _ hp57 hH57 hP57 ((((((((bFr_sub (pFr_W F8) (by decide)).trans (rU_fr U17 (by decide))).trans (bFr_sub G34 (by decide))).trans (bFr_sub F41 (by decide))).trans (bFr_sub F48 (by decide))).trans (rU_fr U53 (by decide)))).trans (bFr_sub F57 (by decide))) (by rw [one 0]; omega) (by unfold rC2; rw [eq]; exact ⟨by rw [h64]; exact L57.1, by rw [one 1, rU_ne U17 (by omega)]; exact c8, by rw [one 2, rU_ne U17 (by omega)]; exact e8, B57, L57, fun i hi => by rw [show rN hp57 13 i = rN hp53 13 i from r_fr F57 rfl, rU_ne U53 (by omega), show rN hp48 13 i = rN hp41 13 i from r_fr F48 rfl]; exact Z41 i hi, by rw [show rN hp57 14 0 = rN hp53 14 0 from r_fr F57 rfl, rU_ne U53 (by omega)]; exact d48, by rw [show rN hp57 14 3 = rN hp53 14 3 from r_fr F57 rfl, rU_ne U53 (by omega)]; exact s48, by rw [show rN hp57 0 11 = rN hp53 0 11 from r_fr F57 rfl, U53.1]; exact h52⟩))
  · refine xcst 25 (-1) ⟨u115, _, rfl⟩ rfl (by decide) (fun z24 h24 => ?_)
    exact xret ⟨u115, _, rfl⟩ rfl (hR _ hp17 hH17 (P0_W (W := [(1, 0)]) (by decide) (rU_fr U17 rfl) hP8) ((bFr_sub (pFr_W F8) (by decide)).trans (rU_fr U17 (by decide))) (by omega) (by unfold rRd at r8; unfold rC2; cases e : tRd y with | inl er => rw [e] at r8; exact ⟨by omega, (rU_ne U17 (by omega)).trans r8.2.1, (rU_ne U17 (by omega)).trans r8.2.2, fun c k h => by rw [U17.2 c k (fun z => h (Or.inl ⟨z.1, by omega⟩))]; exact F8 c k (fun z => h (by rcases z with ⟨a, -, b⟩ | z; exact Or.inl ⟨a, b⟩; exact Or.inr z))⟩ | inr q => rw [e] at r8; have := r8.1; omega))
