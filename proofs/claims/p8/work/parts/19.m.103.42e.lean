/-! ===== develop and restore: the helpers, exactly ===== -/
/-- what developing brings -/
def dvT (V : Nat) (T : sT) (a b c : Nat) : sT × Nat := (sDv V a b c V 0 T 0).getD (T, 0)
/-- whether there is a saved state: 0, else 1 -/
def gRs (sv : Option sR) : Int := match sv with
  | none => 1
  | some _ => 0
theorem u357J : bUp 0 am_m357.1 = true := by decide +kernel
theorem h357J {d : Nat} {hp : amH} {R : cQ} {x1 x2 x3 : Int32} {V n : Nat} {h : Nat → sR} {sv : Option sR} {T : sT} {ty : Nat → Int} (hI : lawI hp) (c : clS hp (V, T, ty) n h sv) (r : rfS hp (V, T, ty) n h sv)
    (hR : ∀ (z : Int32) hp1 mc ms, lawI hp1 → rfS hp1 (V, T, ty) n h sv → z.toInt = dCd V T x1.toInt x2.toInt x3.toInt → ((¬ dCd V T x1.toInt x2.toInt x3.toInt = 0 ∧ clS hp1 (V, T, ty) n h sv) ∨ (dCd V T x1.toInt x2.toInt x3.toInt = 0 ∧ clS hp1 (V, (dvT V T x1.toInt.toNat x2.toInt.toNat x3.toInt.toNat).1, ty) (pM n + 1) (pH n h (V, T, ty)) sv ∧ rJ hp1 83 0 = (((dvT V T x1.toInt.toNat x2.toInt.toNat x3.toInt.toNat).2 : Nat) : Int))) → mc ≤ 1 → ms ≤ 6 → R (.inl (some (.int z))) hp1 mc ms) : cK (d + 20) 357 [.ref 0, .int x1, .int x2, .int x3, .ref 83] hp R := by
  refine cin (M := am_m357) rfl rfl rfl ?_
  refine cald2 2 ⟨u357J, _, rfl⟩ rfl rfl ?_
  refine ccst 3 (0) ⟨u357J, _, rfl⟩ rfl (by decide) (fun z2 h2 => ?_)
  refine cald 4 ⟨u357J, _, rfl⟩ rfl rfl ?_
  refine cild 5 ⟨u357J, _, rfl⟩ rfl rfl ?_
  refine cild 6 ⟨u357J, _, rfl⟩ rfl rfl ?_
  refine cild 7 ⟨u357J, _, rfl⟩ rfl rfl ?_
  refine ccall (kd := 0) (t := 3) [.ref 0, .int _, .int _, .int _] [.int _, .ref 83] hI.1 ⟨u357J, _, rfl⟩ (Or.inl ⟨_, rfl, rfl, by decide, by decide⟩) rfl rfl rfl ⟨rfl, rfl, rfl⟩ rfl (recv0 hI.1 _) rfl (qKE (Φ := fun z hp1 => bHk 84 bTT hp1 ∧ cF hp hp1 ∧ dCd V T x1.toInt x2.toInt x3.toInt = 0 ∧ clS hp1 (V, (dvT V T x1.toInt.toNat x2.toInt.toNat x3.toInt.toNat).1, ty) (pM n + 1) (pH n h (V, T, ty)) sv ∧ z.toInt = (((dvT V T x1.toInt.toNat x2.toInt.toNat x3.toInt.toNat).2 : Nat) : Int)) (Ψ := fun E hp1 => lawI hp1 ∧ rfS hp1 (V, T, ty) n h sv ∧ clS hp1 (V, T, ty) n h sv ∧ ¬ dCd V T x1.toInt x2.toInt x3.toInt = 0 ∧ ((dCd V T x1.toInt x2.toInt x3.toInt = 1 ∧ E = 1) ∨ (dCd V T x1.toInt x2.toInt x3.toInt = 2 ∧ E = 0) ∨ (dCd V T x1.toInt x2.toInt x3.toInt = 3 ∧ E = 2))) (fun R g1 g2 => k_128E (d := d + 13) hI.1 c (fun E hp1 b1 b2 b3 e1 e2 => g2 E hp1 ⟨law_cl hI b1 b2, cF_rf b2 r, b3, e1, e2⟩) (fun z hp1 q a1 a2 a3 a4 a5 a6 => g1 z hp1 ⟨a1, a2, a3, (by unfold dvT; rw [a4]; exact a5), (by unfold dvT; rw [a4]; exact a6)⟩)) (fun z hp1 φ => Or.inl ⟨_, rfl, ?_⟩) (fun E hp1 ψ => Or.inr ?_))
  · refine ci2lE 11 ⟨u357J, _, rfl⟩ rfl (fun w hw => ?_)
    refine clastE 12 φ.1 ⟨u357J, _, rfl⟩ rfl h2 (fun hp2 hH2 F2 J2 => ?_)
    refine cgoto ⟨u357J, _, rfl⟩ ?_
    refine ccst 28 (0) ⟨u357J, _, rfl⟩ rfl (by decide) (fun z9 h9 => ?_)
    exact cret ⟨u357J, _, rfl⟩ (Or.inl rfl) (hR _ _ _ _ (lawI_83 (law_cl hI φ.1 φ.2.1) hH2 F2) (rf_83 F2 (cF_rf φ.2.1 r)) (by rw [φ.2.2.1]; exact h9) (Or.inr ⟨φ.2.2.1, cl_83 F2 φ.2.2.2.1, by rw [J2, hw]; exact φ.2.2.2.2⟩) (by decide) (by decide))
  · obtain ⟨ψ0, ψr, ψc, ψ1, ψ2⟩ := ψ
    rcases ψ2 with ⟨ce, rfl⟩ | ⟨ce, rfl⟩ | ⟨ce, rfl⟩
    · refine ⟨1, 15, 5, 17, rfl, rfl, rfl, rfl, ?_⟩
      refine ccst 18 (1) ⟨u357J, _, rfl⟩ rfl (by decide) (fun z9 h9 => ?_)
      exact cret ⟨u357J, _, rfl⟩ (Or.inl rfl) (hR _ _ _ _ ψ0 ψr (by rw [ce]; exact h9) (Or.inl ⟨ψ1, ψc⟩) (by decide) (by decide))
    · refine ⟨0, 19, 5, 21, rfl, rfl, rfl, rfl, ?_⟩
      refine ccst 22 (2) ⟨u357J, _, rfl⟩ rfl (by decide) (fun z9 h9 => ?_)
      exact cret ⟨u357J, _, rfl⟩ (Or.inl rfl) (hR _ _ _ _ ψ0 ψr (by rw [ce]; exact h9) (Or.inl ⟨ψ1, ψc⟩) (by decide) (by decide))
    · refine ⟨2, 23, 5, 25, rfl, rfl, rfl, rfl, ?_⟩
      refine ccst 26 (3) ⟨u357J, _, rfl⟩ rfl (by decide) (fun z9 h9 => ?_)
      exact cret ⟨u357J, _, rfl⟩ (Or.inl rfl) (hR _ _ _ _ ψ0 ψr (by rw [ce]; exact h9) (Or.inl ⟨ψ1, ψc⟩) (by decide) (by decide))

theorem u384J : bUp 0 am_m384.1 = true := by decide +kernel
theorem h384J {d : Nat} {hp : amH} {R : cQ} {V n : Nat} {h : Nat → sR} {sv : Option sR} {T : sT} {ty : Nat → Int} (hI : lawI hp) (c : clS hp (V, T, ty) n h sv) (r : rfS hp (V, T, ty) n h sv)
    (hR : ∀ (z : Int32) hp1 mc ms, lawI hp1 → rfS hp1 (V, T, ty) n h sv → z.toInt = gRs sv → ((¬ gRs sv = 0 ∧ clS hp1 (V, T, ty) n h sv) ∨ (gRs sv = 0 ∧ clS hp1 (sv.getD (V, T, ty)) 0 h sv ∧ rJ hp1 83 0 = (((trL (sv.getD (V, T, ty)).2.1 225).length : Nat) : Int))) → mc ≤ 1 → ms ≤ 6 → R (.inl (some (.int z))) hp1 mc ms) : cK (d + 20) 384 [.ref 0, .ref 83] hp R := by
  refine cin (M := am_m384) rfl rfl rfl ?_
  refine cald 1 ⟨u384J, _, rfl⟩ rfl rfl ?_
  refine ccst 2 (0) ⟨u384J, _, rfl⟩ rfl (by decide) (fun z1 h1 => ?_)
  refine cald 3 ⟨u384J, _, rfl⟩ rfl rfl ?_
  refine ccall (kd := 0) (t := 1) [.ref 0] [.int _, .ref 83] hI.1 ⟨u384J, _, rfl⟩ (Or.inl ⟨_, rfl, rfl, by decide, by decide⟩) rfl rfl rfl ⟨rfl, rfl, rfl⟩ rfl (recv0 hI.1 _) rfl (qKE (Φ := fun z hp1 => bHk 84 bTT hp1 ∧ cF hp hp1 ∧ gRs sv = 0 ∧ clS hp1 (sv.getD (V, T, ty)) 0 h sv ∧ z.toInt = (((trL (sv.getD (V, T, ty)).2.1 225).length : Nat) : Int)) (Ψ := fun E hp1 => lawI hp1 ∧ rfS hp1 (V, T, ty) n h sv ∧ clS hp1 (V, T, ty) n h sv ∧ ¬ gRs sv = 0 ∧ ((gRs sv = 1 ∧ E = 2))) (fun R g1 g2 => k_175E (d := d + 13) hI.1 c (fun e1 => g2 2 hp ⟨hI, r, c, (by rw [e1]; decide), ⟨by rw [e1]; rfl, rfl⟩⟩) (fun z hp1 q1 a1 a2 a3 a4 a5 => g1 z hp1 ⟨a1, a2, (by rw [a3]; rfl), (by rw [a3]; rw [a3] at a4; exact a4), (by rw [a3]; exact a5)⟩)) (fun z hp1 φ => Or.inl ⟨_, rfl, ?_⟩) (fun E hp1 ψ => Or.inr ?_))
  · refine ci2lE 7 ⟨u384J, _, rfl⟩ rfl (fun w hw => ?_)
    refine clastE 8 φ.1 ⟨u384J, _, rfl⟩ rfl h1 (fun hp2 hH2 F2 J2 => ?_)
    refine cgoto ⟨u384J, _, rfl⟩ ?_
    refine ccst 15 (0) ⟨u384J, _, rfl⟩ rfl (by decide) (fun z9 h9 => ?_)
    exact cret ⟨u384J, _, rfl⟩ (Or.inl rfl) (hR _ _ _ _ (lawI_83 (law_cl hI φ.1 φ.2.1) hH2 F2) (rf_83 F2 (cF_rf φ.2.1 r)) (by rw [φ.2.2.1]; exact h9) (Or.inr ⟨φ.2.2.1, cl_83 F2 φ.2.2.2.1, by rw [J2, hw]; exact φ.2.2.2.2⟩) (by decide) (by decide))
  · obtain ⟨ψ0, ψr, ψc, ψ1, ψ2⟩ := ψ
    obtain ⟨ce, rfl⟩ := ψ2
    refine ⟨2, 11, 2, 12, rfl, rfl, rfl, rfl, ?_⟩
    refine ccst 13 (1) ⟨u384J, _, rfl⟩ rfl (by decide) (fun z9 h9 => ?_)
    exact cret ⟨u384J, _, rfl⟩ (Or.inl rfl) (hR _ _ _ _ ψ0 ψr (by rw [ce]; exact h9) (Or.inl ⟨ψ1, ψc⟩) (by decide) (by decide))
