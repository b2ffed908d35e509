/-! ##### 19.m.102.42d ##### -/
section
/-! ===== the mutators' helpers, exactly ===== -/
theorem gTri_12 {n : Nat} {t : Int} : gTri n t = 0 ∨ gTri n t = 1 := by unfold gTri; split <;> simp
theorem gPt_12 {V : Nat} {t : Int} : gPt V t = 0 ∨ gPt V t = 1 := by unfold gPt; split <;> simp
theorem gTwo_12 {V : Nat} {a b : Int} : gTwo V a b = 0 ∨ gTwo V a b = 1 ∨ gTwo V a b = 2 := by unfold gTwo; split <;> (try split) <;> simp
theorem u356J : bUp 0 am_m356.1 = true := by decide +kernel
theorem h356J {d : Nat} {hp : amH} {R : cQ} {x1 : Int32} {V n : Nat} {h : Nat → sR} {sv : Option sR} {T : sT} {ty : Nat → Int} (hI : lawI hp) (c : clS hp (V, T, ty) n h sv) (r : rfS hp (V, T, ty) n h sv)
    (hR : ∀ (z : Int32) hp1 mc ms, lawI hp1 → rfS hp1 (V, T, ty) n h sv → z.toInt = gTri (trL T 225).length x1.toInt → ((¬ gTri (trL T 225).length x1.toInt = 0 ∧ clS hp1 (V, T, ty) n h sv) ∨ (gTri (trL T 225).length x1.toInt = 0 ∧ clS hp1 (V, tkT T x1.toInt.toNat, ty) (pM n + 1) (pH n h (V, T, ty)) sv ∧ rJ hp1 83 0 = (((trL (tkT T x1.toInt.toNat) 225).length : Nat) : Int))) → mc ≤ 1 → ms ≤ 6 → R (.inl (some (.int z))) hp1 mc ms) : cK (d + 20) 356 [.ref 0, .int x1, .ref 83] hp R := by
  refine cin (M := am_m356) rfl rfl rfl ?_
  refine cald 1 ⟨u356J, _, rfl⟩ rfl rfl ?_
  refine ccst 2 (0) ⟨u356J, _, rfl⟩ rfl (by decide) (fun z1 h1 => ?_)
  refine cald 3 ⟨u356J, _, rfl⟩ rfl rfl ?_
  refine cild 4 ⟨u356J, _, rfl⟩ rfl rfl ?_
  refine ccall (kd := 0) (t := 1) [.ref 0, .int _] [.int _, .ref 83] hI.1 ⟨u356J, _, rfl⟩ (Or.inl ⟨_, rfl, rfl, by decide, by decide⟩) rfl rfl rfl ⟨rfl, rfl, rfl⟩ rfl (recv0 hI.1 _) rfl (qKE (Φ := fun z hp1 => bHk 84 bTT hp1 ∧ cF hp hp1 ∧ gTri (trL T 225).length x1.toInt = 0 ∧ clS hp1 (V, tkT T x1.toInt.toNat, ty) (pM n + 1) (pH n h (V, T, ty)) sv ∧ z.toInt = (((trL (tkT T x1.toInt.toNat) 225).length : Nat) : Int)) (Ψ := fun E hp1 => lawI hp1 ∧ rfS hp1 (V, T, ty) n h sv ∧ clS hp1 (V, T, ty) n h sv ∧ ¬ gTri (trL T 225).length x1.toInt = 0 ∧ ((gTri (trL T 225).length x1.toInt = 1 ∧ E = 1))) (fun R g1 g2 => k_127E (d := d + 13) hI.1 c (fun e1 => g2 1 hp ⟨hI, r, c, e1, ⟨(gTri_12 (n := (trL T 225).length) (t := x1.toInt)).resolve_left e1, rfl⟩⟩) (fun z hp1 a1 a2 a3 a4 a5 => g1 z hp1 ⟨a1, a2, a3, a4, a5⟩)) (fun z hp1 φ => Or.inl ⟨_, rfl, ?_⟩) (fun E hp1 ψ => Or.inr ?_))
  · refine ci2lE 8 ⟨u356J, _, rfl⟩ rfl (fun w hw => ?_)
    refine clastE 9 φ.1 ⟨u356J, _, rfl⟩ rfl h1 (fun hp2 hH2 F2 J2 => ?_)
    refine cgoto ⟨u356J, _, rfl⟩ ?_
    refine ccst 16 (0) ⟨u356J, _, rfl⟩ rfl (by decide) (fun z9 h9 => ?_)
    exact cret ⟨u356J, _, rfl⟩ (Or.inl rfl) (hR _ _ _ _ (lawI_83 (law_cl hI φ.1 φ.2.1) hH2 F2) (rf_83 F2 (cF_rf φ.2.1 r)) (by rw [φ.2.2.1]; exact h9) (Or.inr ⟨φ.2.2.1, cl_83 F2 φ.2.2.2.1, by rw [J2, hw]; exact φ.2.2.2.2⟩) (by decide) (by decide))
  · obtain ⟨ψ0, ψr, ψc, ψ1, ψ2⟩ := ψ
    obtain ⟨ce, rfl⟩ := ψ2
    refine ⟨1, 12, 3, 13, rfl, rfl, rfl, rfl, ?_⟩
    refine ccst 14 (1) ⟨u356J, _, rfl⟩ rfl (by decide) (fun z9 h9 => ?_)
    exact cret ⟨u356J, _, rfl⟩ (Or.inl rfl) (hR _ _ _ _ ψ0 ψr (by rw [ce]; exact h9) (Or.inl ⟨ψ1, ψc⟩) (by decide) (by decide))

theorem u380J : bUp 0 am_m380.1 = true := by decide +kernel
theorem h380J {d : Nat} {hp : amH} {R : cQ} {x1 : Int32} {V n : Nat} {h : Nat → sR} {sv : Option sR} {T : sT} {ty : Nat → Int} (hI : lawI hp) (c : clS hp (V, T, ty) n h sv) (r : rfS hp (V, T, ty) n h sv)
    (hR : ∀ (z : Int32) hp1 mc ms, lawI hp1 → rfS hp1 (V, T, ty) n h sv → z.toInt = gPt V x1.toInt → ((¬ gPt V x1.toInt = 0 ∧ clS hp1 (V, T, ty) n h sv) ∨ (gPt V x1.toInt = 0 ∧ clS hp1 (V, dP (mtB T (2 ^ x1.toInt.toNat) 1) T 225, ty) (pM n + 1) (pH n h (V, T, ty)) sv ∧ rJ hp1 83 0 + (((trL (dP (mtB T (2 ^ x1.toInt.toNat) 1) T 225) 225).length : Nat) : Int) = (((trL T 225).length : Nat) : Int))) → mc ≤ 1 → ms ≤ 6 → R (.inl (some (.int z))) hp1 mc ms) : cK (d + 20) 380 [.ref 0, .int x1, .ref 83] hp R := by
  refine cin (M := am_m380) rfl rfl rfl ?_
  refine cald 1 ⟨u380J, _, rfl⟩ rfl rfl ?_
  refine ccst 2 (0) ⟨u380J, _, rfl⟩ rfl (by decide) (fun z1 h1 => ?_)
  refine cald 3 ⟨u380J, _, rfl⟩ rfl rfl ?_
  refine cild 4 ⟨u380J, _, rfl⟩ rfl rfl ?_
  refine ccall (kd := 0) (t := 1) [.ref 0, .int _] [.int _, .ref 83] hI.1 ⟨u380J, _, rfl⟩ (Or.inl ⟨_, rfl, rfl, by decide, by decide⟩) rfl rfl rfl ⟨rfl, rfl, rfl⟩ rfl (recv0 hI.1 _) rfl (qKE (Φ := fun z hp1 => bHk 84 bTT hp1 ∧ cF hp hp1 ∧ gPt V x1.toInt = 0 ∧ clS hp1 (V, dP (mtB T (2 ^ x1.toInt.toNat) 1) T 225, ty) (pM n + 1) (pH n h (V, T, ty)) sv ∧ z.toInt + (((trL (dP (mtB T (2 ^ x1.toInt.toNat) 1) T 225) 225).length : Nat) : Int) = (((trL T 225).length : Nat) : Int)) (Ψ := fun E hp1 => lawI hp1 ∧ rfS hp1 (V, T, ty) n h sv ∧ clS hp1 (V, T, ty) n h sv ∧ ¬ gPt V x1.toInt = 0 ∧ ((gPt V x1.toInt = 1 ∧ E = 1))) (fun R g1 g2 => k_168E (d := d + 13) hI.1 c (fun e1 => g2 1 hp ⟨hI, r, c, e1, ⟨(gPt_12 (V := V) (t := x1.toInt)).resolve_left e1, rfl⟩⟩) (fun z hp1 a1 a2 a3 a4 a5 => g1 z hp1 ⟨a1, a2, a3, a4, a5⟩)) (fun z hp1 φ => Or.inl ⟨_, rfl, ?_⟩) (fun E hp1 ψ => Or.inr ?_))
  · refine ci2lE 8 ⟨u380J, _, rfl⟩ rfl (fun w hw => ?_)
    refine clastE 9 φ.1 ⟨u380J, _, rfl⟩ rfl h1 (fun hp2 hH2 F2 J2 => ?_)
    refine cgoto ⟨u380J, _, rfl⟩ ?_
    refine ccst 16 (0) ⟨u380J, _, rfl⟩ rfl (by decide) (fun z9 h9 => ?_)
    exact cret ⟨u380J, _, rfl⟩ (Or.inl rfl) (hR _ _ _ _ (lawI_83 (law_cl hI φ.1 φ.2.1) hH2 F2) (rf_83 F2 (cF_rf φ.2.1 r)) (by rw [φ.2.2.1]; exact h9) (Or.inr ⟨φ.2.2.1, cl_83 F2 φ.2.2.2.1, by rw [J2, hw]; exact φ.2.2.2.2⟩) (by decide) (by decide))
  · obtain ⟨ψ0, ψr, ψc, ψ1, ψ2⟩ := ψ
    obtain ⟨ce, rfl⟩ := ψ2
    refine ⟨1, 12, 3, 13, rfl, rfl, rfl, rfl, ?_⟩
    refine ccst 14 (1) ⟨u380J, _, rfl⟩ rfl (by decide) (fun z9 h9 => ?_)
    exact cret ⟨u380J, _, rfl⟩ (Or.inl rfl) (hR _ _ _ _ ψ0 ψr (by rw [ce]; exact h9) (Or.inl ⟨ψ1, ψc⟩) (by decide) (by decide))

theorem u362J : bUp 0 am_m362.1 = true := by decide +kernel
theorem h362J {d : Nat} {hp : amH} {R : cQ} {x1 : Int32} {V n : Nat} {h : Nat → sR} {sv : Option sR} {T : sT} {ty : Nat → Int} (hI : lawI hp) (c : clS hp (V, T, ty) n h sv) (r : rfS hp (V, T, ty) n h sv)
    (hR : ∀ (z : Int32) hp1 mc ms, lawI hp1 → rfS hp1 (V, T, ty) n h sv → z.toInt = gTri (nQ T) x1.toInt → ((¬ gTri (nQ T) x1.toInt = 0 ∧ clS hp1 (V, T, ty) n h sv) ∨ (gTri (nQ T) x1.toInt = 0 ∧ clS hp1 (V, swQ T (cQ2 T x1.toInt.toNat), tyQ ty) (pM n + 1) (pH n h (V, T, ty)) sv ∧ rJ hp1 83 0 = ((swV T x1.toInt.toNat : Nat) : Int))) → mc ≤ 1 → ms ≤ 6 → R (.inl (some (.int z))) hp1 mc ms) : cK (d + 20) 362 [.ref 0, .int x1, .ref 83] hp R := by
  refine cin (M := am_m362) rfl rfl rfl ?_
  refine cald 1 ⟨u362J, _, rfl⟩ rfl rfl ?_
  refine ccst 2 (0) ⟨u362J, _, rfl⟩ rfl (by decide) (fun z1 h1 => ?_)
  refine cald 3 ⟨u362J, _, rfl⟩ rfl rfl ?_
  refine cild 4 ⟨u362J, _, rfl⟩ rfl rfl ?_
  refine ccall (kd := 0) (t := 1) [.ref 0, .int _] [.int _, .ref 83] hI.1 ⟨u362J, _, rfl⟩ (Or.inl ⟨_, rfl, rfl, by decide, by decide⟩) rfl rfl rfl ⟨rfl, rfl, rfl⟩ rfl (recv0 hI.1 _) rfl (qKE (Φ := fun z hp1 => bHk 84 bTT hp1 ∧ cF hp hp1 ∧ gTri (nQ T) x1.toInt = 0 ∧ clS hp1 (V, swQ T (cQ2 T x1.toInt.toNat), tyQ ty) (pM n + 1) (pH n h (V, T, ty)) sv ∧ z.toInt = ((swV T x1.toInt.toNat : Nat) : Int)) (Ψ := fun E hp1 => lawI hp1 ∧ rfS hp1 (V, T, ty) n h sv ∧ clS hp1 (V, T, ty) n h sv ∧ ¬ gTri (nQ T) x1.toInt = 0 ∧ ((gTri (nQ T) x1.toInt = 1 ∧ E = 1))) (fun R g1 g2 => k_136E (d := d + 12) hI.1 c (fun E e1 e2 => g2 E hp ⟨hI, r, c, e1, (by
      rcases e2 with z | z | z
      · exact z
      · exfalso; have := gTri_12 (n := nQ T) (t := x1.toInt); omega
      · exfalso; have := gTri_12 (n := nQ T) (t := x1.toInt); omega)⟩) (fun z hp1 a1 a2 a3 a4 a5 => g1 z hp1 ⟨a1, a2, a3, a4, a5⟩)) (fun z hp1 φ => Or.inl ⟨_, rfl, ?_⟩) (fun E hp1 ψ => Or.inr ?_))
  · refine ci2lE 8 ⟨u362J, _, rfl⟩ rfl (fun w hw => ?_)
    refine clastE 9 φ.1 ⟨u362J, _, rfl⟩ rfl h1 (fun hp2 hH2 F2 J2 => ?_)
    refine cgoto ⟨u362J, _, rfl⟩ ?_
    refine ccst 16 (0) ⟨u362J, _, rfl⟩ rfl (by decide) (fun z9 h9 => ?_)
    exact cret ⟨u362J, _, rfl⟩ (Or.inl rfl) (hR _ _ _ _ (lawI_83 (law_cl hI φ.1 φ.2.1) hH2 F2) (rf_83 F2 (cF_rf φ.2.1 r)) (by rw [φ.2.2.1]; exact h9) (Or.inr ⟨φ.2.2.1, cl_83 F2 φ.2.2.2.1, by rw [J2, hw]; exact φ.2.2.2.2⟩) (by decide) (by decide))
  · obtain ⟨ψ0, ψr, ψc, ψ1, ψ2⟩ := ψ
    obtain ⟨ce, rfl⟩ := ψ2
    refine ⟨1, 12, 3, 13, rfl, rfl, rfl, rfl, ?_⟩
    refine ccst 14 (1) ⟨u362J, _, rfl⟩ rfl (by decide) (fun z9 h9 => ?_)
    exact cret ⟨u362J, _, rfl⟩ (Or.inl rfl) (hR _ _ _ _ ψ0 ψr (by rw [ce]; exact h9) (Or.inl ⟨ψ1, ψc⟩) (by decide) (by decide))

theorem u364J : bUp 0 am_m364.1 = true := by decide +kernel
theorem h364J {d : Nat} {hp : amH} {R : cQ} {x1 : Int32} {V n : Nat} {h : Nat → sR} {sv : Option sR} {T : sT} {ty : Nat → Int} (hI : lawI hp) (c : clS hp (V, T, ty) n h sv) (r : rfS hp (V, T, ty) n h sv)
    (hR : ∀ (z : Int32) hp1 mc ms, lawI hp1 → rfS hp1 (V, T, ty) n h sv → z.toInt = gTm x1.toInt → ((¬ gTm x1.toInt = 0 ∧ clS hp1 (V, T, ty) n h sv) ∨ (gTm x1.toInt = 0 ∧ clS hp1 (V, (dsF x1.toInt.toNat T ty 0).1, (dsF x1.toInt.toNat T ty 0).2.1) (pM n + 1) (pH n h (V, T, ty)) sv ∧ rJ hp1 83 0 = (((dsF x1.toInt.toNat T ty 0).2.2 : Nat) : Int))) → mc ≤ 1 → ms ≤ 6 → R (.inl (some (.int z))) hp1 mc ms) : cK (d + 20) 364 [.ref 0, .int x1, .ref 83] hp R := by
  refine cin (M := am_m364) rfl rfl rfl ?_
  refine cald 1 ⟨u364J, _, rfl⟩ rfl rfl ?_
  refine ccst 2 (0) ⟨u364J, _, rfl⟩ rfl (by decide) (fun z1 h1 => ?_)
  refine cald 3 ⟨u364J, _, rfl⟩ rfl rfl ?_
  refine cild 4 ⟨u364J, _, rfl⟩ rfl rfl ?_
  refine ccall (kd := 0) (t := 1) [.ref 0, .int _] [.int _, .ref 83] hI.1 ⟨u364J, _, rfl⟩ (Or.inl ⟨_, rfl, rfl, by decide, by decide⟩) rfl rfl rfl ⟨rfl, rfl, rfl⟩ rfl (recv0 hI.1 _) rfl (qKE (Φ := fun z hp1 => bHk 84 bTT hp1 ∧ cF hp hp1 ∧ gTm x1.toInt = 0 ∧ clS hp1 (V, (dsF x1.toInt.toNat T ty 0).1, (dsF x1.toInt.toNat T ty 0).2.1) (pM n + 1) (pH n h (V, T, ty)) sv ∧ z.toInt = (((dsF x1.toInt.toNat T ty 0).2.2 : Nat) : Int)) (Ψ := fun E hp1 => lawI hp1 ∧ rfS hp1 (V, T, ty) n h sv ∧ clS hp1 (V, T, ty) n h sv ∧ ¬ gTm x1.toInt = 0 ∧ ((gTm x1.toInt = 1 ∧ E = 0))) (fun R g1 g2 => k_139E (d := d + 12) hI.1 c (fun e1 => g2 0 hp ⟨hI, r, c, (by rw [e1]; decide), ⟨e1, rfl⟩⟩) (fun z hp1 a1 a2 a3 a4 a5 => g1 z hp1 ⟨a1, a2, a3, a4, a5⟩)) (fun z hp1 φ => Or.inl ⟨_, rfl, ?_⟩) (fun E hp1 ψ => Or.inr ?_))
  · refine ci2lE 8 ⟨u364J, _, rfl⟩ rfl (fun w hw => ?_)
    refine clastE 9 φ.1 ⟨u364J, _, rfl⟩ rfl h1 (fun hp2 hH2 F2 J2 => ?_)
    refine cgoto ⟨u364J, _, rfl⟩ ?_
    refine ccst 16 (0) ⟨u364J, _, rfl⟩ rfl (by decide) (fun z9 h9 => ?_)
    exact cret ⟨u364J, _, rfl⟩ (Or.inl rfl) (hR _ _ _ _ (lawI_83 (law_cl hI φ.1 φ.2.1) hH2 F2) (rf_83 F2 (cF_rf φ.2.1 r)) (by rw [φ.2.2.1]; exact h9) (Or.inr ⟨φ.2.2.1, cl_83 F2 φ.2.2.2.1, by rw [J2, hw]; exact φ.2.2.2.2⟩) (by decide) (by decide))
  · obtain ⟨ψ0, ψr, ψc, ψ1, ψ2⟩ := ψ
    obtain ⟨ce, rfl⟩ := ψ2
    refine ⟨0, 12, 3, 13, rfl, rfl, rfl, rfl, ?_⟩
    refine ccst 14 (1) ⟨u364J, _, rfl⟩ rfl (by decide) (fun z9 h9 => ?_)
    exact cret ⟨u364J, _, rfl⟩ (Or.inl rfl) (hR _ _ _ _ ψ0 ψr (by rw [ce]; exact h9) (Or.inl ⟨ψ1, ψc⟩) (by decide) (by decide))

theorem u368J : bUp 0 am_m368.1 = true := by decide +kernel
theorem h368J {d : Nat} {hp : amH} {R : cQ} {x1 x2 x3 : Int32} {V n : Nat} {h : Nat → sR} {sv : Option sR} {T : sT} {ty : Nat → Int} (hI : lawI hp) (c : clS hp (V, T, ty) n h sv) (r : rfS hp (V, T, ty) n h sv)
    (hR : ∀ (z : Int32) hp1 mc ms, lawI hp1 → rfS hp1 (V, T, ty) n h sv → z.toInt = gCy V T x1.toInt x2.toInt x3.toInt → ((¬ gCy V T x1.toInt x2.toInt x3.toInt = 0 ∧ clS hp1 (V, T, ty) n h sv) ∨ (gCy V T x1.toInt x2.toInt x3.toInt = 0 ∧ clS hp1 (V, swC T x1.toInt.toNat x2.toInt.toNat (cyX V T x1.toInt x2.toInt x3.toInt), tyC ty (cyL T x1.toInt.toNat x2.toInt.toNat (cyX V T x1.toInt x2.toInt x3.toInt))) (pM n + 1) (pH n h (V, T, ty)) sv ∧ rJ hp1 83 0 = ((cyL T x1.toInt.toNat x2.toInt.toNat (cyX V T x1.toInt x2.toInt x3.toInt) : Nat) : Int))) → mc ≤ 1 → ms ≤ 6 → R (.inl (some (.int z))) hp1 mc ms) : cK (d + 20) 368 [.ref 0, .int x1, .int x2, .int x3, .ref 83] hp R := by
  refine cin (M := am_m368) rfl rfl rfl ?_
  refine cald2 2 ⟨u368J, _, rfl⟩ rfl rfl ?_
  refine ccst 3 (0) ⟨u368J, _, rfl⟩ rfl (by decide) (fun z2 h2 => ?_)
  refine cald 4 ⟨u368J, _, rfl⟩ rfl rfl ?_
  refine cild 5 ⟨u368J, _, rfl⟩ rfl rfl ?_
  refine cild 6 ⟨u368J, _, rfl⟩ rfl rfl ?_
  refine cild 7 ⟨u368J, _, rfl⟩ rfl rfl ?_
  refine ccall (kd := 0) (t := 3) [.ref 0, .int _, .int _, .int _] [.int _, .ref 83] hI.1 ⟨u368J, _, rfl⟩ (Or.inl ⟨_, rfl, rfl, by decide, by decide⟩) rfl rfl rfl ⟨rfl, rfl, rfl⟩ rfl (recv0 hI.1 _) rfl (qKE (Φ := fun z hp1 => bHk 84 bTT hp1 ∧ cF hp hp1 ∧ gCy V T x1.toInt x2.toInt x3.toInt = 0 ∧ clS hp1 (V, swC T x1.toInt.toNat x2.toInt.toNat (cyX V T x1.toInt x2.toInt x3.toInt), tyC ty (cyL T x1.toInt.toNat x2.toInt.toNat (cyX V T x1.toInt x2.toInt x3.toInt))) (pM n + 1) (pH n h (V, T, ty)) sv ∧ z.toInt = ((cyL T x1.toInt.toNat x2.toInt.toNat (cyX V T x1.toInt x2.toInt x3.toInt) : Nat) : Int)) (Ψ := fun E hp1 => lawI hp1 ∧ rfS hp1 (V, T, ty) n h sv ∧ clS hp1 (V, T, ty) n h sv ∧ ¬ gCy V T x1.toInt x2.toInt x3.toInt = 0 ∧ ((gCy V T x1.toInt x2.toInt x3.toInt = 1 ∧ E = 1) ∨ (gCy V T x1.toInt x2.toInt x3.toInt = 2 ∧ E = 0) ∨ (gCy V T x1.toInt x2.toInt x3.toInt = 3 ∧ E = 3))) (fun R g1 g2 => k_143E (d := d + 13) hI.1 c (fun E e1 e2 => g2 E hp ⟨hI, r, c, (fun z => e1 (gCy_0.mp z).1), (by
      have gc : gCy V T x1.toInt x2.toInt x3.toInt = gTwo V x1.toInt x2.toInt := by unfold gCy; rw [if_neg e1]
      rw [gc]
      rcases e2 with z | z | z
      · exact Or.inl z
      · exact Or.inr (Or.inl z)
      · exfalso; have := gTwo_12 (V := V) (a := x1.toInt) (b := x2.toInt); omega)⟩) (fun hp1 b1 b2 b3 b4 b5 => g2 3 hp1 ⟨law_cl hI b1 b2, cF_rf b2 r, b3, (fun z => b5 (gCy_0.mp z).2), Or.inr (Or.inr ⟨by unfold gCy; rw [if_pos b4, if_neg b5], rfl⟩)⟩) (fun z hp1 a1 a2 a3 a4 a5 a6 a7 => g1 z hp1 ⟨a1, a2, gCy_0.mpr ⟨a3, a4, a5⟩, a6, a7⟩)) (fun z hp1 φ => Or.inl ⟨_, rfl, ?_⟩) (fun E hp1 ψ => Or.inr ?_))
  · refine ci2lE 11 ⟨u368J, _, rfl⟩ rfl (fun w hw => ?_)
    refine clastE 12 φ.1 ⟨u368J, _, rfl⟩ rfl h2 (fun hp2 hH2 F2 J2 => ?_)
    refine cgoto ⟨u368J, _, rfl⟩ ?_
    refine ccst 28 (0) ⟨u368J, _, rfl⟩ rfl (by decide) (fun z9 h9 => ?_)
    exact cret ⟨u368J, _, rfl⟩ (Or.inl rfl) (hR _ _ _ _ (lawI_83 (law_cl hI φ.1 φ.2.1) hH2 F2) (rf_83 F2 (cF_rf φ.2.1 r)) (by rw [φ.2.2.1]; exact h9) (Or.inr ⟨φ.2.2.1, cl_83 F2 φ.2.2.2.1, by rw [J2, hw]; exact φ.2.2.2.2⟩) (by decide) (by decide))
  · obtain ⟨ψ0, ψr, ψc, ψ1, ψ2⟩ := ψ
    rcases ψ2 with ⟨ce, rfl⟩ | ⟨ce, rfl⟩ | ⟨ce, rfl⟩
    · refine ⟨1, 15, 5, 17, rfl, rfl, rfl, rfl, ?_⟩
      refine ccst 18 (1) ⟨u368J, _, rfl⟩ rfl (by decide) (fun z9 h9 => ?_)
      exact cret ⟨u368J, _, rfl⟩ (Or.inl rfl) (hR _ _ _ _ ψ0 ψr (by rw [ce]; exact h9) (Or.inl ⟨ψ1, ψc⟩) (by decide) (by decide))
    · refine ⟨0, 19, 5, 21, rfl, rfl, rfl, rfl, ?_⟩
      refine ccst 22 (2) ⟨u368J, _, rfl⟩ rfl (by decide) (fun z9 h9 => ?_)
      exact cret ⟨u368J, _, rfl⟩ (Or.inl rfl) (hR _ _ _ _ ψ0 ψr (by rw [ce]; exact h9) (Or.inl ⟨ψ1, ψc⟩) (by decide) (by decide))
    · refine ⟨3, 23, 5, 25, rfl, rfl, rfl, rfl, ?_⟩
      refine ccst 26 (3) ⟨u368J, _, rfl⟩ rfl (by decide) (fun z9 h9 => ?_)
      exact cret ⟨u368J, _, rfl⟩ (Or.inl rfl) (hR _ _ _ _ ψ0 ψr (by rw [ce]; exact h9) (Or.inl ⟨ψ1, ψc⟩) (by decide) (by decide))

theorem u379J : bUp 0 am_m379.1 = true := by decide +kernel
theorem h379J {d : Nat} {hp : amH} {R : cQ} {x1 x2 : Int32} {V n : Nat} {h : Nat → sR} {sv : Option sR} {T : sT} {ty : Nat → Int} (hI : lawI hp) (c : clS hp (V, T, ty) n h sv) (r : rfS hp (V, T, ty) n h sv)
    (hR : ∀ (z : Int32) hp1 mc ms, lawI hp1 → rfS hp1 (V, T, ty) n h sv → z.toInt = gTwo V x1.toInt x2.toInt → ((¬ gTwo V x1.toInt x2.toInt = 0 ∧ clS hp1 (V, T, ty) n h sv) ∨ (gTwo V x1.toInt x2.toInt = 0 ∧ clS hp1 (V, pG (sw x1.toInt.toNat x2.toInt.toNat) T 225, ty) (pM n + 1) (pH n h (V, T, ty)) sv ∧ rJ hp1 83 0 + ((hC (sw x1.toInt.toNat x2.toInt.toNat) T 225 : Nat) : Int) = (((trL T 225).length : Nat) : Int))) → mc ≤ 1 → ms ≤ 6 → R (.inl (some (.int z))) hp1 mc ms) : cK (d + 20) 379 [.ref 0, .int x1, .int x2, .ref 83] hp R := by
  refine cin (M := am_m379) rfl rfl rfl ?_
  refine cald 1 ⟨u379J, _, rfl⟩ rfl rfl ?_
  refine ccst 2 (0) ⟨u379J, _, rfl⟩ rfl (by decide) (fun z1 h1 => ?_)
  refine cald 3 ⟨u379J, _, rfl⟩ rfl rfl ?_
  refine cild 4 ⟨u379J, _, rfl⟩ rfl rfl ?_
  refine cild 5 ⟨u379J, _, rfl⟩ rfl rfl ?_
  refine ccall (kd := 0) (t := 2) [.ref 0, .int _, .int _] [.int _, .ref 83] hI.1 ⟨u379J, _, rfl⟩ (Or.inl ⟨_, rfl, rfl, by decide, by decide⟩) rfl rfl rfl ⟨rfl, rfl, rfl⟩ rfl (recv0 hI.1 _) rfl (qKE (Φ := fun z hp1 => bHk 84 bTT hp1 ∧ cF hp hp1 ∧ gTwo V x1.toInt x2.toInt = 0 ∧ clS hp1 (V, pG (sw x1.toInt.toNat x2.toInt.toNat) T 225, ty) (pM n + 1) (pH n h (V, T, ty)) sv ∧ z.toInt + ((hC (sw x1.toInt.toNat x2.toInt.toNat) T 225 : Nat) : Int) = (((trL T 225).length : Nat) : Int)) (Ψ := fun E hp1 => lawI hp1 ∧ rfS hp1 (V, T, ty) n h sv ∧ clS hp1 (V, T, ty) n h sv ∧ ¬ gTwo V x1.toInt x2.toInt = 0 ∧ ((gTwo V x1.toInt x2.toInt = 1 ∧ E = 1) ∨ (gTwo V x1.toInt x2.toInt = 2 ∧ E = 0))) (fun R g1 g2 => k_167E (d := d + 12) hI.1 c (fun E e1 e2 => g2 E hp ⟨hI, r, c, e1, (by
      rcases e2 with z | z | z
      · exact Or.inl z
      · exact Or.inr z
      · exfalso; have := gTwo_12 (V := V) (a := x1.toInt) (b := x2.toInt); omega)⟩) (fun z hp1 a1 a2 a3 a4 a5 => g1 z hp1 ⟨a1, a2, a3, a4, a5⟩)) (fun z hp1 φ => Or.inl ⟨_, rfl, ?_⟩) (fun E hp1 ψ => Or.inr ?_))
  · refine ci2lE 9 ⟨u379J, _, rfl⟩ rfl (fun w hw => ?_)
    refine clastE 10 φ.1 ⟨u379J, _, rfl⟩ rfl h1 (fun hp2 hH2 F2 J2 => ?_)
    refine cgoto ⟨u379J, _, rfl⟩ ?_
    refine ccst 22 (0) ⟨u379J, _, rfl⟩ rfl (by decide) (fun z9 h9 => ?_)
    exact cret ⟨u379J, _, rfl⟩ (Or.inl rfl) (hR _ _ _ _ (lawI_83 (law_cl hI φ.1 φ.2.1) hH2 F2) (rf_83 F2 (cF_rf φ.2.1 r)) (by rw [φ.2.2.1]; exact h9) (Or.inr ⟨φ.2.2.1, cl_83 F2 φ.2.2.2.1, by rw [J2, hw]; exact φ.2.2.2.2⟩) (by decide) (by decide))
  · obtain ⟨ψ0, ψr, ψc, ψ1, ψ2⟩ := ψ
    rcases ψ2 with ⟨ce, rfl⟩ | ⟨ce, rfl⟩
    · refine ⟨1, 13, 4, 15, rfl, rfl, rfl, rfl, ?_⟩
      refine ccst 16 (1) ⟨u379J, _, rfl⟩ rfl (by decide) (fun z9 h9 => ?_)
      exact cret ⟨u379J, _, rfl⟩ (Or.inl rfl) (hR _ _ _ _ ψ0 ψr (by rw [ce]; exact h9) (Or.inl ⟨ψ1, ψc⟩) (by decide) (by decide))
    · refine ⟨0, 17, 4, 19, rfl, rfl, rfl, rfl, ?_⟩
      refine ccst 20 (2) ⟨u379J, _, rfl⟩ rfl (by decide) (fun z9 h9 => ?_)
      exact cret ⟨u379J, _, rfl⟩ (Or.inl rfl) (hR _ _ _ _ ψ0 ψr (by rw [ce]; exact h9) (Or.inl ⟨ψ1, ψc⟩) (by decide) (by decide))

theorem u382J : bUp 0 am_m382.1 = true := by decide +kernel
theorem h382J {d : Nat} {hp : amH} {R : cQ} {x1 x2 x3 : Int32} {V n : Nat} {h : Nat → sR} {sv : Option sR} {T : sT} {ty : Nat → Int} (hI : lawI hp) (c : clS hp (V, T, ty) n h sv) (r : rfS hp (V, T, ty) n h sv)
    (hR : ∀ (z : Int32) hp1 mc ms, lawI hp1 → rfS hp1 (V, T, ty) n h sv → z.toInt = fCd V T x1.toInt x2.toInt x3.toInt → ((¬ fCd V T x1.toInt x2.toInt x3.toInt = 0 ∧ clS hp1 (V, T, ty) n h sv) ∨ (fCd V T x1.toInt x2.toInt x3.toInt = 0 ∧ clS hp1 (V, fcT T x1.toInt.toNat x2.toInt.toNat x3.toInt.toNat, ty) (pM n + 1) (pH n h (V, T, ty)) sv ∧ rJ hp1 83 0 + (((trL (dP (mtB T (m3 x1.toInt.toNat x2.toInt.toNat x3.toInt.toNat) 2) T 225) 225).length : Nat) : Int) = (((trL T 225).length : Nat) : Int))) → mc ≤ 1 → ms ≤ 6 → R (.inl (some (.int z))) hp1 mc ms) : cK (d + 20) 382 [.ref 0, .int x1, .int x2, .int x3, .ref 83] hp R := by
  refine cin (M := am_m382) rfl rfl rfl ?_
  refine cald2 2 ⟨u382J, _, rfl⟩ rfl rfl ?_
  refine ccst 3 (0) ⟨u382J, _, rfl⟩ rfl (by decide) (fun z2 h2 => ?_)
  refine cald 4 ⟨u382J, _, rfl⟩ rfl rfl ?_
  refine cild 5 ⟨u382J, _, rfl⟩ rfl rfl ?_
  refine cild 6 ⟨u382J, _, rfl⟩ rfl rfl ?_
  refine cild 7 ⟨u382J, _, rfl⟩ rfl rfl ?_
  refine ccall (kd := 0) (t := 3) [.ref 0, .int _, .int _, .int _] [.int _, .ref 83] hI.1 ⟨u382J, _, rfl⟩ (Or.inl ⟨_, rfl, rfl, by decide, by decide⟩) rfl rfl rfl ⟨rfl, rfl, rfl⟩ rfl (recv0 hI.1 _) rfl (qKE (Φ := fun z hp1 => bHk 84 bTT hp1 ∧ cF hp hp1 ∧ fCd V T x1.toInt x2.toInt x3.toInt = 0 ∧ clS hp1 (V, fcT T x1.toInt.toNat x2.toInt.toNat x3.toInt.toNat, ty) (pM n + 1) (pH n h (V, T, ty)) sv ∧ z.toInt + (((trL (dP (mtB T (m3 x1.toInt.toNat x2.toInt.toNat x3.toInt.toNat) 2) T 225) 225).length : Nat) : Int) = (((trL T 225).length : Nat) : Int)) (Ψ := fun E hp1 => lawI hp1 ∧ rfS hp1 (V, T, ty) n h sv ∧ clS hp1 (V, T, ty) n h sv ∧ ¬ fCd V T x1.toInt x2.toInt x3.toInt = 0 ∧ ((fCd V T x1.toInt x2.toInt x3.toInt = 1 ∧ E = 1) ∨ (fCd V T x1.toInt x2.toInt x3.toInt = 2 ∧ E = 0) ∨ (fCd V T x1.toInt x2.toInt x3.toInt = 3 ∧ E = 2))) (fun R g1 g2 => k_170E (d := d + 13) hI.1 c (fun E e1 e2 => g2 E hp ⟨hI, r, c, e1, e2⟩) (fun z hp1 a1 a2 a3 a4 a5 => g1 z hp1 ⟨a1, a2, a3, a4, a5⟩)) (fun z hp1 φ => Or.inl ⟨_, rfl, ?_⟩) (fun E hp1 ψ => Or.inr ?_))
  · refine ci2lE 11 ⟨u382J, _, rfl⟩ rfl (fun w hw => ?_)
    refine clastE 12 φ.1 ⟨u382J, _, rfl⟩ rfl h2 (fun hp2 hH2 F2 J2 => ?_)
    refine cgoto ⟨u382J, _, rfl⟩ ?_
    refine ccst 28 (0) ⟨u382J, _, rfl⟩ rfl (by decide) (fun z9 h9 => ?_)
    exact cret ⟨u382J, _, rfl⟩ (Or.inl rfl) (hR _ _ _ _ (lawI_83 (law_cl hI φ.1 φ.2.1) hH2 F2) (rf_83 F2 (cF_rf φ.2.1 r)) (by rw [φ.2.2.1]; exact h9) (Or.inr ⟨φ.2.2.1, cl_83 F2 φ.2.2.2.1, by rw [J2, hw]; exact φ.2.2.2.2⟩) (by decide) (by decide))
  · obtain ⟨ψ0, ψr, ψc, ψ1, ψ2⟩ := ψ
    rcases ψ2 with ⟨ce, rfl⟩ | ⟨ce, rfl⟩ | ⟨ce, rfl⟩
    · refine ⟨1, 15, 5, 17, rfl, rfl, rfl, rfl, ?_⟩
      refine ccst 18 (1) ⟨u382J, _, rfl⟩ rfl (by decide) (fun z9 h9 => ?_)
      exact cret ⟨u382J, _, rfl⟩ (Or.inl rfl) (hR _ _ _ _ ψ0 ψr (by rw [ce]; exact h9) (Or.inl ⟨ψ1, ψc⟩) (by decide) (by decide))
    · refine ⟨0, 19, 5, 21, rfl, rfl, rfl, rfl, ?_⟩
      refine ccst 22 (2) ⟨u382J, _, rfl⟩ rfl (by decide) (fun z9 h9 => ?_)
      exact cret ⟨u382J, _, rfl⟩ (Or.inl rfl) (hR _ _ _ _ ψ0 ψr (by rw [ce]; exact h9) (Or.inl ⟨ψ1, ψc⟩) (by decide) (by decide))
    · refine ⟨2, 23, 5, 25, rfl, rfl, rfl, rfl, ?_⟩
      refine ccst 26 (3) ⟨u382J, _, rfl⟩ rfl (by decide) (fun z9 h9 => ?_)
      exact cret ⟨u382J, _, rfl⟩ (Or.inl rfl) (hR _ _ _ _ ψ0 ψr (by rw [ce]; exact h9) (Or.inl ⟨ψ1, ψc⟩) (by decide) (by decide))
end
/-! ##### 19.m.103.42e ##### -/
section
/-! ===== develop and restore: the helpers, exactly ===== -/
/-- what developing brings -/
noncomputable def dvT (V : Nat) (T : sT) (a b c : Nat) : sT × Nat := (sDv V a b c V 0 T 0).getD (T, 0)
/-- whether there is a saved state: 0, else 1 -/
noncomputable def gRs (sv : Option sR) : Int := match sv with
  | none => 1
  | some _ => 0
theorem u357J : bUp 0 am_m357.1 = true := by decide +kernel
theorem h357J {d : Nat} {hp : amH} {R : cQ} {x1 x2 x3 : Int32} {V n : Nat} {h : Nat → sR} {sv : Option sR} {T : sT} {ty : Nat → Int} (hI : lawI hp) (c : clS hp (V, T, ty) n h sv) (r : rfS hp (V, T, ty) n h sv)
    (hR : ∀ (z : Int32) hp1 mc ms, lawI hp1 → rfS hp1 (V, T, ty) n h sv → z.toInt = dCd V T x1.toInt x2.toInt x3.toInt → ((¬ dCd V T x1.toInt x2.toInt x3.toInt = 0 ∧ clS hp1 (V, T, ty) n h sv) ∨ (dCd V T x1.toInt x2.toInt x3.toInt = 0 ∧ clS hp1 (V, (dvT V T x1.toInt.toNat x2.toInt.toNat x3.toInt.toNat).1, ty) (pM n + 1) (pH n h (V, T, ty)) sv ∧ rJ hp1 83 0 = (((dvT V T x1.toInt.toNat x2.toInt.toNat x3.toInt.toNat).2 : Nat) : Int))) → mc ≤ 1 → ms ≤ 6 → R (.inl (some (.int z))) hp1 mc ms) : cK (d + 20) 357 [.ref 0, .int x1, .int x2, .int x3, .ref 83] hp R := by
  refine cin (M := am_m357) rfl rfl rfl ?_
  refine cald2 2 ⟨u357J, _, rfl⟩ rfl rfl ?_
  refine ccst 3 (0) ⟨u357J, _, rfl⟩ rfl (by decide) (fun z2 h2 => ?_)
  refine cald 4 ⟨u357J, _, rfl⟩ rfl rfl ?_
  refine cild 5 ⟨u357J, _, rfl⟩ rfl rfl ?_
  refine cild 6 ⟨u357J, _, rfl⟩ rfl rfl ?_
  refine cild 7 ⟨u357J, _, rfl⟩ rfl rfl ?_
  refine ccall (kd := 0) (t := 3) [.ref 0, .int _, .int _, .int _] [.int _, .ref 83] hI.1 ⟨u357J, _, rfl⟩ (Or.inl ⟨_, rfl, rfl, by decide, by decide⟩) rfl rfl rfl ⟨rfl, rfl, rfl⟩ rfl (recv0 hI.1 _) rfl (qKE (Φ := fun z hp1 => bHk 84 bTT hp1 ∧ cF hp hp1 ∧ dCd V T x1.toInt x2.toInt x3.toInt = 0 ∧ clS hp1 (V, (dvT V T x1.toInt.toNat x2.toInt.toNat x3.toInt.toNat).1, ty) (pM n + 1) (pH n h (V, T, ty)) sv ∧ z.toInt = (((dvT V T x1.toInt.toNat x2.toInt.toNat x3.toInt.toNat).2 : Nat) : Int)) (Ψ := fun E hp1 => lawI hp1 ∧ rfS hp1 (V, T, ty) n h sv ∧ clS hp1 (V, T, ty) n h sv ∧ ¬ dCd V T x1.toInt x2.toInt x3.toInt = 0 ∧ ((dCd V T x1.toInt x2.toInt x3.toInt = 1 ∧ E = 1) ∨ (dCd V T x1.toInt x2.toInt x3.toInt = 2 ∧ E = 0) ∨ (dCd V T x1.toInt x2.toInt x3.toInt = 3 ∧ E = 2))) (fun R g1 g2 => k_128E (d := d + 13) hI.1 c (fun E hp1 b1 b2 b3 e1 e2 => g2 E hp1 ⟨law_cl hI b1 b2, cF_rf b2 r, b3, e1, e2⟩) (fun z hp1 q a1 a2 a3 a4 a5 a6 => g1 z hp1 ⟨a1, a2, a3, (by unfold dvT; rw [a4]; exact a5), (by unfold dvT; rw [a4]; exact a6)⟩)) (fun z hp1 φ => Or.inl ⟨_, rfl, ?_⟩) (fun E hp1 ψ => Or.inr ?_))
  · refine ci2lE 11 ⟨u357J, _, rfl⟩ rfl (fun w hw => ?_)
    refine clastE 12 φ.1 ⟨u357J, _, rfl⟩ rfl h2 (fun hp2 hH2 F2 J2 => ?_)
    refine cgoto ⟨u357J, _, rfl⟩ ?_
    refine ccst 28 (0) ⟨u357J, _, rfl⟩ rfl (by decide) (fun z9 h9 => ?_)
    exact cret ⟨u357J, _, rfl⟩ (Or.inl rfl) (hR _ _ _ _ (lawI_83 (law_cl hI φ.1 φ.2.1) hH2 F2) (rf_83 F2 (cF_rf φ.2.1 r)) (by rw [φ.2.2.1]; exact h9) (Or.inr ⟨φ.2.2.1, cl_83 F2 φ.2.2.2.1, by rw [J2, hw]; exact φ.2.2.2.2⟩) (by decide) (by decide))
  · obtain ⟨ψ0, ψr, ψc, ψ1, ψ2⟩ := ψ
    rcases ψ2 with ⟨ce, rfl⟩ | ⟨ce, rfl⟩ | ⟨ce, rfl⟩
    · refine ⟨1, 15, 5, 17, rfl, rfl, rfl, rfl, ?_⟩
      refine ccst 18 (1) ⟨u357J, _, rfl⟩ rfl (by decide) (fun z9 h9 => ?_)
      exact cret ⟨u357J, _, rfl⟩ (Or.inl rfl) (hR _ _ _ _ ψ0 ψr (by rw [ce]; exact h9) (Or.inl ⟨ψ1, ψc⟩) (by decide) (by decide))
    · refine ⟨0, 19, 5, 21, rfl, rfl, rfl, rfl, ?_⟩
      refine ccst 22 (2) ⟨u357J, _, rfl⟩ rfl (by decide) (fun z9 h9 => ?_)
      exact cret ⟨u357J, _, rfl⟩ (Or.inl rfl) (hR _ _ _ _ ψ0 ψr (by rw [ce]; exact h9) (Or.inl ⟨ψ1, ψc⟩) (by decide) (by decide))
    · refine ⟨2, 23, 5, 25, rfl, rfl, rfl, rfl, ?_⟩
      refine ccst 26 (3) ⟨u357J, _, rfl⟩ rfl (by decide) (fun z9 h9 => ?_)
      exact cret ⟨u357J, _, rfl⟩ (Or.inl rfl) (hR _ _ _ _ ψ0 ψr (by rw [ce]; exact h9) (Or.inl ⟨ψ1, ψc⟩) (by decide) (by decide))

theorem u384J : bUp 0 am_m384.1 = true := by decide +kernel
theorem h384J {d : Nat} {hp : amH} {R : cQ} {V n : Nat} {h : Nat → sR} {sv : Option sR} {T : sT} {ty : Nat → Int} (hI : lawI hp) (c : clS hp (V, T, ty) n h sv) (r : rfS hp (V, T, ty) n h sv)
    (hR : ∀ (z : Int32) hp1 mc ms, lawI hp1 → rfS hp1 (V, T, ty) n h sv → z.toInt = gRs sv → ((¬ gRs sv = 0 ∧ clS hp1 (V, T, ty) n h sv) ∨ (gRs sv = 0 ∧ clS hp1 (sv.getD (V, T, ty)) 0 h sv ∧ rJ hp1 83 0 = (((trL (sv.getD (V, T, ty)).2.1 225).length : Nat) : Int))) → mc ≤ 1 → ms ≤ 6 → R (.inl (some (.int z))) hp1 mc ms) : cK (d + 20) 384 [.ref 0, .ref 83] hp R := by
  refine cin (M := am_m384) rfl rfl rfl ?_
  refine cald 1 ⟨u384J, _, rfl⟩ rfl rfl ?_
  refine ccst 2 (0) ⟨u384J, _, rfl⟩ rfl (by decide) (fun z1 h1 => ?_)
  refine cald 3 ⟨u384J, _, rfl⟩ rfl rfl ?_
  refine ccall (kd := 0) (t := 1) [.ref 0] [.int _, .ref 83] hI.1 ⟨u384J, _, rfl⟩ (Or.inl ⟨_, rfl, rfl, by decide, by decide⟩) rfl rfl rfl ⟨rfl, rfl, rfl⟩ rfl (recv0 hI.1 _) rfl (qKE (Φ := fun z hp1 => bHk 84 bTT hp1 ∧ cF hp hp1 ∧ gRs sv = 0 ∧ clS hp1 (sv.getD (V, T, ty)) 0 h sv ∧ z.toInt = (((trL (sv.getD (V, T, ty)).2.1 225).length : Nat) : Int)) (Ψ := fun E hp1 => lawI hp1 ∧ rfS hp1 (V, T, ty) n h sv ∧ clS hp1 (V, T, ty) n h sv ∧ ¬ gRs sv = 0 ∧ ((gRs sv = 1 ∧ E = 2))) (fun R g1 g2 => k_175E (d := d + 13) hI.1 c (fun e1 => g2 2 hp ⟨hI, r, c, (by rw [e1]; decide), ⟨by rw [e1]; rfl, rfl⟩⟩) (fun z hp1 q1 a1 a2 a3 a4 a5 => g1 z hp1 ⟨a1, a2, (by rw [a3]; rfl), (by rw [a3]; rw [a3] at a4; exact a4), (by rw [a3]; exact a5)⟩)) (fun z hp1 φ => Or.inl ⟨_, rfl, ?_⟩) (fun E hp1 ψ => Or.inr ?_))
  · refine ci2lE 7 ⟨u384J, _, rfl⟩ rfl (fun w hw => ?_)
    refine clastE 8 φ.1 ⟨u384J, _, rfl⟩ rfl h1 (fun hp2 hH2 F2 J2 => ?_)
    refine cgoto ⟨u384J, _, rfl⟩ ?_
    refine ccst 15 (0) ⟨u384J, _, rfl⟩ rfl (by decide) (fun z9 h9 => ?_)
    exact cret ⟨u384J, _, rfl⟩ (Or.inl rfl) (hR _ _ _ _ (lawI_83 (law_cl hI φ.1 φ.2.1) hH2 F2) (rf_83 F2 (cF_rf φ.2.1 r)) (by rw [φ.2.2.1]; exact h9) (Or.inr ⟨φ.2.2.1, cl_83 F2 φ.2.2.2.1, by rw [J2, hw]; exact φ.2.2.2.2⟩) (by decide) (by decide))
  · obtain ⟨ψ0, ψr, ψc, ψ1, ψ2⟩ := ψ
    obtain ⟨ce, rfl⟩ := ψ2
    refine ⟨2, 11, 2, 12, rfl, rfl, rfl, rfl, ?_⟩
    refine ccst 13 (1) ⟨u384J, _, rfl⟩ rfl (by decide) (fun z9 h9 => ?_)
    exact cret ⟨u384J, _, rfl⟩ (Or.inl rfl) (hR _ _ _ _ ψ0 ψr (by rw [ce]; exact h9) (Or.inl ⟨ψ1, ψc⟩) (by decide) (by decide))
end
